/-! helpers of the functions over contents -/
abbrev ax0 : Ax := (0, 0, (0, 0, 0, none), 0, 0)
abbrev axI (v : Int32) : Ax := (0, 0, (0, 0, 0, none), v, 0)
abbrev axL (v : Int64) : Ax := (0, 0, (0, 0, 0, none), 0, v)
abbrev axF (c j : Nat) (f : FK) : Ax := (c, j, f, 0, 0)
def FU : Nat := 4000
def grd {α : Type} (c : Bool) (x : Option α) : Option α := if c = true then x else none
theorem grd_some {α : Type} {c : Bool} {x : Option α} {q : α} (h : grd c x = some q) : c = true ∧ x = some q := by
  unfold grd at h
  split at h
  · rename_i e
    exact ⟨e, h⟩
  · cases h
def ltσ {α : Type} (s : Sg) (k : Sg → Option α) : Option α := k s
theorem ltσ_some {α : Type} {s : Sg} {k : Sg → Option α} {q : α} (h : ltσ s k = some q) : ∃ s1, s1 = s ∧ k s1 = some q := ⟨s, rfl, h⟩
def ltT {α : Type} (s : Option Nat) (k : Option Nat → Option α) : Option α := k s
theorem ltT_some {α : Type} {s : Option Nat} {k : Option Nat → Option α} {q : α} (h : ltT s k = some q) : ∃ s1, s1 = s ∧ k s1 = some q := ⟨s, rfl, h⟩
def bnd {α β : Type} (x : Option (α × Sg)) (k : α → Sg → Option β) : Option β := match x with
  | none => none
  | some p => k p.1 p.2
theorem bnd_some {α β : Type} {x : Option (α × Sg)} {k : α → Sg → Option β} {q : β} (h : bnd x k = some q) : ∃ r s, x = some (r, s) ∧ k r s = some q := by
  unfold bnd at h
  split at h
  · cases h
  · rename_i p
    exact ⟨p.1, p.2, rfl, h⟩
def bndV {β : Type} (x : Option Sg) (k : Sg → Option β) : Option β := match x with
  | none => none
  | some p => k p
theorem bndV_some {β : Type} {x : Option Sg} {k : Sg → Option β} {q : β} (h : bndV x k = some q) : ∃ s, x = some s ∧ k s = some q := by
  unfold bndV at h
  split at h
  · cases h
  · rename_i p
    exact ⟨p, rfl, h⟩
def tsel {β : Type} (r : Option Nat) (a : Option β) (b : Nat → Option β) : Option β := match r with
  | none => a
  | some k => b k
theorem tsel_some {β : Type} {r : Option Nat} {a : Option β} {b : Nat → Option β} {q : β} (h : tsel r a b = some q) : (r = none ∧ a = some q) ∨ ∃ k, r = some k ∧ b k = some q := by
  cases r with
  | none => exact Or.inl ⟨rfl, h⟩
  | some k => exact Or.inr ⟨k, rfl, h⟩
theorem bz_0 : bz 0 = true := by decide
theorem bz_1 : bz 1 = true := by decide
theorem lsub_0 : lsub [] [] := trivial
theorem lsub_n {y : Option AV} {a b : List (Option AV)} (h : lsub a b) : lsub (none :: a) (y :: b) := h
theorem lsub_s {x : AV} {a b : List (Option AV)} (h : lsub a b) : lsub (some x :: a) (some x :: b) := ⟨rfl, h⟩
theorem room2_le {P : AP} {d' d0 d : Nat} (h : room2 P d' d0 = true) (hd : d0 ≤ d) : room2 P d' d = true := by
  unfold room2 at h ⊢
  rw [Bool.and_eq_true] at h ⊢
  exact ⟨Nat.ble_eq.mpr (Nat.le_trans (Nat.le_of_ble_eq_true h.1) hd), h.2⟩
theorem room2_succ {P : AP} {d : Nat} (h : Nat.ble P.2.2.1 21 = true) : room2 P d (d + 1) = true := by
  unfold room2
  rw [Bool.and_eq_true]
  exact ⟨Nat.ble_eq.mpr (Nat.le_refl _), h⟩
section WRAP
variable {κ : Kd} {P : AP} {d pc : Nat} {out : Out} {L : List (Option AV)} {r stk : List AV} {σ : Sg}
theorem aw_cV {P' : AP} {idx d' c n k : Nat} (As rest : List AV) {ov : Option AV} {stk2 : List AV} {σ' : Sg} (hP' : POK P') (hd : decode P.2.1 pc = .ok (.invokevirtual idx, 3)) (hl : Cond.methodLink P.1.cls idx P'.1 ∈ WS) (hv : VOK P') (hc : c < 13) (hcn : (cN c).1 = P'.1.cls) (hn : nargs P' As.length) (hr : room2 P' d' d = true)
    (hs : stk = As.reverse ++ aR c n k :: rest) (h8 : (rest.map (fun v => if isL v = true then 2 else 1)).sum ≤ 8) (hM : AMet κ P' d' (aR c n k :: As) σ (ov, σ')) (h2 : ov.toList ++ rest = stk2) (kk : AW κ P d out (pc + 3) L stk2 σ') : AW κ P d out pc L stk σ := by
  subst h2
  exact aw_callV As rest hP' hd hl hv hc hcn hn hr hs h8 hM kk
theorem aw_cS {P' : AP} {idx d' : Nat} (As rest : List AV) {ov : Option AV} {stk2 : List AV} {σ' : Sg} (hP' : POK P') (hd : decode P.2.1 pc = .ok (.invokestatic idx, 3)) (hl : Cond.methodLink P.1.cls idx P'.1 ∈ WS) (hv : TOK P') (hn : nargs P' As.length) (hr : room2 P' d' d = true)
    (hs : stk = As.reverse ++ rest) (h8 : (rest.map (fun v => if isL v = true then 2 else 1)).sum ≤ 8) (hM : AMet κ P' d' As σ (ov, σ')) (h2 : ov.toList ++ rest = stk2) (kk : AW κ P d out (pc + 3) L stk2 σ') : AW κ P d out pc L stk σ := by
  subst h2
  exact aw_callS As rest hP' hd hl hv hn hr hs h8 hM kk
theorem aw_cVS {P' : AP} {idx d' n k : Nat} (As rest : List AV) {ov : Option AV} {stk2 : List AV} {σ' : Sg} (hP' : POK P') (hd : decode P.2.1 pc = .ok (.invokevirtual idx, 3)) (hl : Cond.methodLink P.1.cls idx P'.1 ∈ WS) (hv : VOK P') (hcn : "java/lang/String" = P'.1.cls) (hn : nargs P' As.length) (hr : room2 P' d' d = true)
    (hs : stk = As.reverse ++ aR 20 n k :: rest) (h8 : (rest.map (fun v => if isL v = true then 2 else 1)).sum ≤ 8) (hM : AMet κ P' d' (aR 20 n k :: As) σ (ov, σ')) (h2 : ov.toList ++ rest = stk2) (kk : AW κ P d out (pc + 3) L stk2 σ') : AW κ P d out pc L stk σ := by
  subst h2
  exact aw_callVS As rest hP' hd hl hv hcn hn hr hs h8 hM kk
theorem aw_cSN {P' : AP} {idx d' : Nat} (As rest : List AV) {ov : Option AV} {stk2 : List AV} {σ' : Sg} (hP' : POK P') (hd : decode P.2.1 pc = .ok (.invokestatic idx, 3)) (hl : (P.1.cls, idx, P'.1) ∈ nestW) (hv : TOK P') (hn : nargs P' As.length) (hr : room2 P' d' d = true)
    (hs : stk = As.reverse ++ rest) (h8 : (rest.map (fun v => if isL v = true then 2 else 1)).sum ≤ 8) (hM : AMet κ P' d' As σ (ov, σ')) (h2 : ov.toList ++ rest = stk2) (kk : AW κ P d out (pc + 3) L stk2 σ') : AW κ P d out pc L stk σ := by
  subst h2
  exact aw_callSN As rest hP' hd hl hv hn hr hs h8 hM kk
theorem aw_aretT {x : Option Nat} {cn : String} (hr : P.2.2.2.1 = some (.object cn)) (hd : decode P.2.1 pc = .ok (.areturn, 1)) : AW κ P d (some (aT x), σ) pc L [aT x] σ := by
  cases x with
  | none => exact aw_aret hr hd
  | some k => exact aw_aret hr hd
theorem awsw_cons {x v : Int32} {t dt : Nat} {tg : List (Int32 × Nat)} (h1 : x = v → AW κ P d out t L stk σ) (h2 : ¬ x = v → AWsw κ P d out L stk σ x tg dt) : AWsw κ P d out L stk σ x ((v, t) :: tg) dt := ⟨h1, h2⟩
theorem awsw_nil {x : Int32} {dt : Nat} (h : AW κ P d out dt L stk σ) : AWsw κ P d out L stk σ x [] dt := h
end WRAP
/-! the classes' field links and constants; the programs -/
def FRJ0 : List (Nat × Nat × Nat) := []
def KRJ0 : List (Nat × Int32) := []
def LRJ0 : List (Nat × Int64) := []
theorem FRJ0_ok : ∀ e ∈ FRJ0, e.2.1 < 13 ∧ e.2.2 < (cN e.2.1).2.2 ∧ Cond.fieldLink RJ0 e.1 ((cN e.2.1).2.1 e.2.2).1 ((cN e.2.1).2.1 e.2.2).2.1 ((cN e.2.1).2.1 e.2.2).2.2.1 ∈ WS := (fun _ h => absurd h List.not_mem_nil)
theorem KRJ0_ok : ∀ e ∈ KRJ0, Cond.constant RJ0 e.1 e.2 ∈ WS := (fun _ h => absurd h List.not_mem_nil)
theorem LRJ0_ok : ∀ e ∈ LRJ0, Cond.constantLong RJ0 e.1 e.2 ∈ WS := (fun _ h => absurd h List.not_mem_nil)
def FRJ1 : List (Nat × Nat × Nat) := []
def KRJ1 : List (Nat × Int32) := []
def LRJ1 : List (Nat × Int64) := []
theorem FRJ1_ok : ∀ e ∈ FRJ1, e.2.1 < 13 ∧ e.2.2 < (cN e.2.1).2.2 ∧ Cond.fieldLink RJ1 e.1 ((cN e.2.1).2.1 e.2.2).1 ((cN e.2.1).2.1 e.2.2).2.1 ((cN e.2.1).2.1 e.2.2).2.2.1 ∈ WS := (fun _ h => absurd h List.not_mem_nil)
theorem KRJ1_ok : ∀ e ∈ KRJ1, Cond.constant RJ1 e.1 e.2 ∈ WS := (fun _ h => absurd h List.not_mem_nil)
theorem LRJ1_ok : ∀ e ∈ LRJ1, Cond.constantLong RJ1 e.1 e.2 ∈ WS := (fun _ h => absurd h List.not_mem_nil)
def FRJ13 : List (Nat × Nat × Nat) := []
def KRJ13 : List (Nat × Int32) := []
def LRJ13 : List (Nat × Int64) := [(314, 6148914691236517205), (316, 3689348814741910323), (318, 1085102592571150095)]
theorem FRJ13_ok : ∀ e ∈ FRJ13, e.2.1 < 13 ∧ e.2.2 < (cN e.2.1).2.2 ∧ Cond.fieldLink RJ13 e.1 ((cN e.2.1).2.1 e.2.2).1 ((cN e.2.1).2.1 e.2.2).2.1 ((cN e.2.1).2.1 e.2.2).2.2.1 ∈ WS := (fun _ h => absurd h List.not_mem_nil)
theorem KRJ13_ok : ∀ e ∈ KRJ13, Cond.constant RJ13 e.1 e.2 ∈ WS := (fun _ h => absurd h List.not_mem_nil)
theorem LRJ13_ok : ∀ e ∈ LRJ13, Cond.constantLong RJ13 e.1 e.2 ∈ WS := List.forall_mem_cons.mpr ⟨(wsm_5 (i := 188) rfl rfl), List.forall_mem_cons.mpr ⟨(wsm_5 (i := 189) rfl rfl), List.forall_mem_cons.mpr ⟨(wsm_5 (i := 190) rfl rfl), (fun _ h => absurd h List.not_mem_nil)⟩⟩⟩
def FRJ3 : List (Nat × Nat × Nat) := []
def KRJ3 : List (Nat × Int32) := []
def LRJ3 : List (Nat × Int64) := []
theorem FRJ3_ok : ∀ e ∈ FRJ3, e.2.1 < 13 ∧ e.2.2 < (cN e.2.1).2.2 ∧ Cond.fieldLink RJ3 e.1 ((cN e.2.1).2.1 e.2.2).1 ((cN e.2.1).2.1 e.2.2).2.1 ((cN e.2.1).2.1 e.2.2).2.2.1 ∈ WS := (fun _ h => absurd h List.not_mem_nil)
theorem KRJ3_ok : ∀ e ∈ KRJ3, Cond.constant RJ3 e.1 e.2 ∈ WS := (fun _ h => absurd h List.not_mem_nil)
theorem LRJ3_ok : ∀ e ∈ LRJ3, Cond.constantLong RJ3 e.1 e.2 ∈ WS := (fun _ h => absurd h List.not_mem_nil)
def FRJ6 : List (Nat × Nat × Nat) := []
def KRJ6 : List (Nat × Int32) := [(265, 1431655765), (266, 858993459), (267, 252645135)]
def LRJ6 : List (Nat × Int64) := []
theorem FRJ6_ok : ∀ e ∈ FRJ6, e.2.1 < 13 ∧ e.2.2 < (cN e.2.1).2.2 ∧ Cond.fieldLink RJ6 e.1 ((cN e.2.1).2.1 e.2.2).1 ((cN e.2.1).2.1 e.2.2).2.1 ((cN e.2.1).2.1 e.2.2).2.2.1 ∈ WS := (fun _ h => absurd h List.not_mem_nil)
theorem KRJ6_ok : ∀ e ∈ KRJ6, Cond.constant RJ6 e.1 e.2 ∈ WS := List.forall_mem_cons.mpr ⟨(wsm_4 (i := 79) rfl rfl), List.forall_mem_cons.mpr ⟨(wsm_4 (i := 80) rfl rfl), List.forall_mem_cons.mpr ⟨(wsm_4 (i := 81) rfl rfl), (fun _ h => absurd h List.not_mem_nil)⟩⟩⟩
theorem LRJ6_ok : ∀ e ∈ LRJ6, Cond.constantLong RJ6 e.1 e.2 ∈ WS := (fun _ h => absurd h List.not_mem_nil)
def FRX0 : List (Nat × Nat × Nat) := [(38, 5, 1), (9, 0, 0), (46, 0, 1), (15, 0, 2), (18, 0, 3), (21, 0, 4), (34, 0, 5), (43, 0, 6)]
def KRX0 : List (Nat × Int32) := []
def LRX0 : List (Nat × Int64) := []
theorem FRX0_ok : ∀ e ∈ FRX0, e.2.1 < 13 ∧ e.2.2 < (cN e.2.1).2.2 ∧ Cond.fieldLink RX0 e.1 ((cN e.2.1).2.1 e.2.2).1 ((cN e.2.1).2.1 e.2.2).2.1 ((cN e.2.1).2.1 e.2.2).2.2.1 ∈ WS := List.forall_mem_cons.mpr ⟨⟨by decide, by decide, (wsm_1 (i := 103) rfl rfl)⟩, List.forall_mem_cons.mpr ⟨⟨by decide, by decide, (wsm_2 (i := 58) rfl rfl)⟩, List.forall_mem_cons.mpr ⟨⟨by decide, by decide, (wsm_2 (i := 60) rfl rfl)⟩, List.forall_mem_cons.mpr ⟨⟨by decide, by decide, (wsm_2 (i := 62) rfl rfl)⟩, List.forall_mem_cons.mpr ⟨⟨by decide, by decide, (wsm_2 (i := 63) rfl rfl)⟩, List.forall_mem_cons.mpr ⟨⟨by decide, by decide, (wsm_2 (i := 64) rfl rfl)⟩, List.forall_mem_cons.mpr ⟨⟨by decide, by decide, (wsm_2 (i := 65) rfl rfl)⟩, List.forall_mem_cons.mpr ⟨⟨by decide, by decide, (wsm_2 (i := 66) rfl rfl)⟩, (fun _ h => absurd h List.not_mem_nil)⟩⟩⟩⟩⟩⟩⟩⟩
theorem KRX0_ok : ∀ e ∈ KRX0, Cond.constant RX0 e.1 e.2 ∈ WS := (fun _ h => absurd h List.not_mem_nil)
theorem LRX0_ok : ∀ e ∈ LRX0, Cond.constantLong RX0 e.1 e.2 ∈ WS := (fun _ h => absurd h List.not_mem_nil)
def FRX1 : List (Nat × Nat × Nat) := [(29, 8, 0), (96, 8, 1), (77, 8, 2), (70, 8, 3), (56, 8, 4), (49, 8, 5), (21, 8, 6), (9, 1, 0), (99, 1, 1)]
def KRX1 : List (Nat × Int32) := []
def LRX1 : List (Nat × Int64) := [(132, (-1000000)), (134, 1000000)]
theorem FRX1_ok : ∀ e ∈ FRX1, e.2.1 < 13 ∧ e.2.2 < (cN e.2.1).2.2 ∧ Cond.fieldLink RX1 e.1 ((cN e.2.1).2.1 e.2.2).1 ((cN e.2.1).2.1 e.2.2).2.1 ((cN e.2.1).2.1 e.2.2).2.2.1 ∈ WS := List.forall_mem_cons.mpr ⟨⟨by decide, by decide, (wsm_1 (i := 45) rfl rfl)⟩, List.forall_mem_cons.mpr ⟨⟨by decide, by decide, (wsm_1 (i := 49) rfl rfl)⟩, List.forall_mem_cons.mpr ⟨⟨by decide, by decide, (wsm_1 (i := 52) rfl rfl)⟩, List.forall_mem_cons.mpr ⟨⟨by decide, by decide, (wsm_1 (i := 55) rfl rfl)⟩, List.forall_mem_cons.mpr ⟨⟨by decide, by decide, (wsm_1 (i := 58) rfl rfl)⟩, List.forall_mem_cons.mpr ⟨⟨by decide, by decide, (wsm_1 (i := 61) rfl rfl)⟩, List.forall_mem_cons.mpr ⟨⟨by decide, by decide, (wsm_1 (i := 63) rfl rfl)⟩, List.forall_mem_cons.mpr ⟨⟨by decide, by decide, (wsm_1 (i := 204) rfl rfl)⟩, List.forall_mem_cons.mpr ⟨⟨by decide, by decide, (wsm_1 (i := 205) rfl rfl)⟩, (fun _ h => absurd h List.not_mem_nil)⟩⟩⟩⟩⟩⟩⟩⟩⟩
theorem KRX1_ok : ∀ e ∈ KRX1, Cond.constant RX1 e.1 e.2 ∈ WS := (fun _ h => absurd h List.not_mem_nil)
theorem LRX1_ok : ∀ e ∈ LRX1, Cond.constantLong RX1 e.1 e.2 ∈ WS := List.forall_mem_cons.mpr ⟨(wsm_4 (i := 127) rfl rfl), List.forall_mem_cons.mpr ⟨(wsm_4 (i := 128) rfl rfl), (fun _ h => absurd h List.not_mem_nil)⟩⟩
def FRX10 : List (Nat × Nat × Nat) := [(12, 10, 0), (21, 10, 1), (28, 10, 2), (34, 10, 3), (75, 10, 4), (38, 10, 5), (42, 10, 6), (46, 10, 7), (49, 10, 8), (52, 10, 9), (55, 10, 10), (84, 10, 11), (59, 10, 12), (62, 10, 13), (87, 10, 14)]
def KRX10 : List (Nat × Int32) := []
def LRX10 : List (Nat × Int64) := []
theorem FRX10_ok : ∀ e ∈ FRX10, e.2.1 < 13 ∧ e.2.2 < (cN e.2.1).2.2 ∧ Cond.fieldLink RX10 e.1 ((cN e.2.1).2.1 e.2.2).1 ((cN e.2.1).2.1 e.2.2).2.1 ((cN e.2.1).2.1 e.2.2).2.2.1 ∈ WS := List.forall_mem_cons.mpr ⟨⟨by decide, by decide, (wsm_1 (i := 130) rfl rfl)⟩, List.forall_mem_cons.mpr ⟨⟨by decide, by decide, (wsm_1 (i := 133) rfl rfl)⟩, List.forall_mem_cons.mpr ⟨⟨by decide, by decide, (wsm_1 (i := 135) rfl rfl)⟩, List.forall_mem_cons.mpr ⟨⟨by decide, by decide, (wsm_1 (i := 137) rfl rfl)⟩, List.forall_mem_cons.mpr ⟨⟨by decide, by decide, (wsm_1 (i := 138) rfl rfl)⟩, List.forall_mem_cons.mpr ⟨⟨by decide, by decide, (wsm_1 (i := 140) rfl rfl)⟩, List.forall_mem_cons.mpr ⟨⟨by decide, by decide, (wsm_1 (i := 142) rfl rfl)⟩, List.forall_mem_cons.mpr ⟨⟨by decide, by decide, (wsm_1 (i := 144) rfl rfl)⟩, List.forall_mem_cons.mpr ⟨⟨by decide, by decide, (wsm_1 (i := 146) rfl rfl)⟩, List.forall_mem_cons.mpr ⟨⟨by decide, by decide, (wsm_1 (i := 149) rfl rfl)⟩, List.forall_mem_cons.mpr ⟨⟨by decide, by decide, (wsm_1 (i := 152) rfl rfl)⟩, List.forall_mem_cons.mpr ⟨⟨by decide, by decide, (wsm_1 (i := 155) rfl rfl)⟩, List.forall_mem_cons.mpr ⟨⟨by decide, by decide, (wsm_1 (i := 158) rfl rfl)⟩, List.forall_mem_cons.mpr ⟨⟨by decide, by decide, (wsm_1 (i := 160) rfl rfl)⟩, List.forall_mem_cons.mpr ⟨⟨by decide, by decide, (wsm_1 (i := 162) rfl rfl)⟩, (fun _ h => absurd h List.not_mem_nil)⟩⟩⟩⟩⟩⟩⟩⟩⟩⟩⟩⟩⟩⟩⟩
theorem KRX10_ok : ∀ e ∈ KRX10, Cond.constant RX10 e.1 e.2 ∈ WS := (fun _ h => absurd h List.not_mem_nil)
theorem LRX10_ok : ∀ e ∈ LRX10, Cond.constantLong RX10 e.1 e.2 ∈ WS := (fun _ h => absurd h List.not_mem_nil)
def FRX11 : List (Nat × Nat × Nat) := [(312, 8, 0), (194, 8, 1), (197, 8, 2), (200, 8, 3), (130, 8, 4), (151, 8, 5), (216, 8, 6), (178, 8, 7), (222, 8, 8), (219, 8, 9), (342, 5, 1), (191, 4, 2), (68, 10, 0), (83, 10, 1), (133, 10, 2), (101, 10, 4), (122, 10, 5), (268, 10, 6), (320, 10, 7), (298, 10, 8), (301, 10, 9), (304, 10, 10), (295, 10, 11), (329, 10, 12), (332, 10, 13), (326, 10, 14), (112, 3, 0), (116, 3, 1), (119, 3, 2), (277, 0, 0), (274, 0, 1), (10, 11, 0), (16, 11, 1), (22, 11, 2), (29, 11, 3), (36, 11, 4), (43, 11, 5), (50, 11, 6), (57, 11, 7), (61, 11, 8), (65, 11, 9), (93, 11, 10)]
def KRX11 : List (Nat × Int32) := [(253, 1000000)]
def LRX11 : List (Nat × Int64) := []
theorem FRX11_ok : ∀ e ∈ FRX11, e.2.1 < 13 ∧ e.2.2 < (cN e.2.1).2.2 ∧ Cond.fieldLink RX11 e.1 ((cN e.2.1).2.1 e.2.2).1 ((cN e.2.1).2.1 e.2.2).2.1 ((cN e.2.1).2.1 e.2.2).2.2.1 ∈ WS := List.forall_mem_cons.mpr ⟨⟨by decide, by decide, (wsm_1 (i := 47) rfl rfl)⟩, List.forall_mem_cons.mpr ⟨⟨by decide, by decide, (wsm_1 (i := 50) rfl rfl)⟩, List.forall_mem_cons.mpr ⟨⟨by decide, by decide, (wsm_1 (i := 53) rfl rfl)⟩, List.forall_mem_cons.mpr ⟨⟨by decide, by decide, (wsm_1 (i := 56) rfl rfl)⟩, List.forall_mem_cons.mpr ⟨⟨by decide, by decide, (wsm_1 (i := 59) rfl rfl)⟩, List.forall_mem_cons.mpr ⟨⟨by decide, by decide, (wsm_1 (i := 62) rfl rfl)⟩, List.forall_mem_cons.mpr ⟨⟨by decide, by decide, (wsm_1 (i := 65) rfl rfl)⟩, List.forall_mem_cons.mpr ⟨⟨by decide, by decide, (wsm_1 (i := 67) rfl rfl)⟩, List.forall_mem_cons.mpr ⟨⟨by decide, by decide, (wsm_1 (i := 69) rfl rfl)⟩, List.forall_mem_cons.mpr ⟨⟨by decide, by decide, (wsm_1 (i := 71) rfl rfl)⟩, List.forall_mem_cons.mpr ⟨⟨by decide, by decide, (wsm_1 (i := 105) rfl rfl)⟩, List.forall_mem_cons.mpr ⟨⟨by decide, by decide, (wsm_1 (i := 120) rfl rfl)⟩, List.forall_mem_cons.mpr ⟨⟨by decide, by decide, (wsm_1 (i := 131) rfl rfl)⟩, List.forall_mem_cons.mpr ⟨⟨by decide, by decide, (wsm_1 (i := 134) rfl rfl)⟩, List.forall_mem_cons.mpr ⟨⟨by decide, by decide, (wsm_1 (i := 136) rfl rfl)⟩, List.forall_mem_cons.mpr ⟨⟨by decide, by decide, (wsm_1 (i := 139) rfl rfl)⟩, List.forall_mem_cons.mpr ⟨⟨by decide, by decide, (wsm_1 (i := 141) rfl rfl)⟩, List.forall_mem_cons.mpr ⟨⟨by decide, by decide, (wsm_1 (i := 143) rfl rfl)⟩, List.forall_mem_cons.mpr ⟨⟨by decide, by decide, (wsm_1 (i := 145) rfl rfl)⟩, List.forall_mem_cons.mpr ⟨⟨by decide, by decide, (wsm_1 (i := 148) rfl rfl)⟩, List.forall_mem_cons.mpr ⟨⟨by decide, by decide, (wsm_1 (i := 151) rfl rfl)⟩, List.forall_mem_cons.mpr ⟨⟨by decide, by decide, (wsm_1 (i := 154) rfl rfl)⟩, List.forall_mem_cons.mpr ⟨⟨by decide, by decide, (wsm_1 (i := 157) rfl rfl)⟩, List.forall_mem_cons.mpr ⟨⟨by decide, by decide, (wsm_1 (i := 159) rfl rfl)⟩, List.forall_mem_cons.mpr ⟨⟨by decide, by decide, (wsm_1 (i := 161) rfl rfl)⟩, List.forall_mem_cons.mpr ⟨⟨by decide, by decide, (wsm_1 (i := 163) rfl rfl)⟩, List.forall_mem_cons.mpr ⟨⟨by decide, by decide, (wsm_1 (i := 237) rfl rfl)⟩, List.forall_mem_cons.mpr ⟨⟨by decide, by decide, (wsm_1 (i := 239) rfl rfl)⟩, List.forall_mem_cons.mpr ⟨⟨by decide, by decide, (wsm_2 (i := 1) rfl rfl)⟩, List.forall_mem_cons.mpr ⟨⟨by decide, by decide, (wsm_2 (i := 59) rfl rfl)⟩, List.forall_mem_cons.mpr ⟨⟨by decide, by decide, (wsm_2 (i := 61) rfl rfl)⟩, List.forall_mem_cons.mpr ⟨⟨by decide, by decide, (wsm_2 (i := 102) rfl rfl)⟩, List.forall_mem_cons.mpr ⟨⟨by decide, by decide, (wsm_2 (i := 103) rfl rfl)⟩, List.forall_mem_cons.mpr ⟨⟨by decide, by decide, (wsm_2 (i := 104) rfl rfl)⟩, List.forall_mem_cons.mpr ⟨⟨by decide, by decide, (wsm_2 (i := 105) rfl rfl)⟩, List.forall_mem_cons.mpr ⟨⟨by decide, by decide, (wsm_2 (i := 106) rfl rfl)⟩, List.forall_mem_cons.mpr ⟨⟨by decide, by decide, (wsm_2 (i := 107) rfl rfl)⟩, List.forall_mem_cons.mpr ⟨⟨by decide, by decide, (wsm_2 (i := 108) rfl rfl)⟩, List.forall_mem_cons.mpr ⟨⟨by decide, by decide, (wsm_2 (i := 109) rfl rfl)⟩, List.forall_mem_cons.mpr ⟨⟨by decide, by decide, (wsm_2 (i := 110) rfl rfl)⟩, List.forall_mem_cons.mpr ⟨⟨by decide, by decide, (wsm_2 (i := 111) rfl rfl)⟩, List.forall_mem_cons.mpr ⟨⟨by decide, by decide, (wsm_2 (i := 112) rfl rfl)⟩, (fun _ h => absurd h List.not_mem_nil)⟩⟩⟩⟩⟩⟩⟩⟩⟩⟩⟩⟩⟩⟩⟩⟩⟩⟩⟩⟩⟩⟩⟩⟩⟩⟩⟩⟩⟩⟩⟩⟩⟩⟩⟩⟩⟩⟩⟩⟩⟩⟩
theorem KRX11_ok : ∀ e ∈ KRX11, Cond.constant RX11 e.1 e.2 ∈ WS := List.forall_mem_cons.mpr ⟨(wsm_5 (i := 37) rfl rfl), (fun _ h => absurd h List.not_mem_nil)⟩
theorem LRX11_ok : ∀ e ∈ LRX11, Cond.constantLong RX11 e.1 e.2 ∈ WS := (fun _ h => absurd h List.not_mem_nil)
def FRX12 : List (Nat × Nat × Nat) := [(7, 12, 0), (13, 12, 1), (16, 12, 2), (19, 12, 3), (92, 12, 4), (22, 12, 5), (26, 12, 6), (98, 12, 7), (105, 12, 8), (108, 12, 9), (114, 12, 10), (121, 12, 11), (146, 12, 12), (149, 12, 13), (181, 12, 14), (29, 12, 15), (152, 12, 16), (162, 12, 17), (184, 12, 18), (247, 12, 19), (32, 12, 20), (35, 12, 21), (39, 12, 22), (297, 12, 23), (43, 12, 24), (343, 12, 25), (47, 12, 26), (50, 12, 27), (53, 12, 28), (56, 12, 29), (59, 12, 30), (62, 12, 31)]
def KRX12 : List (Nat × Int32) := [(117, 99999), (430, 1000000)]
def LRX12 : List (Nat × Int64) := [(125, 1152921504606846976), (263, 1000000), (265, (-1000000)), (278, 2), (319, 397), (321, 277), (323, 30497)]
theorem FRX12_ok : ∀ e ∈ FRX12, e.2.1 < 13 ∧ e.2.2 < (cN e.2.1).2.2 ∧ Cond.fieldLink RX12 e.1 ((cN e.2.1).2.1 e.2.2).1 ((cN e.2.1).2.1 e.2.2).2.1 ((cN e.2.1).2.1 e.2.2).2.2.1 ∈ WS := List.forall_mem_cons.mpr ⟨⟨by decide, by decide, (wsm_6 (i := 33) rfl rfl)⟩, List.forall_mem_cons.mpr ⟨⟨by decide, by decide, (wsm_6 (i := 34) rfl rfl)⟩, List.forall_mem_cons.mpr ⟨⟨by decide, by decide, (wsm_6 (i := 35) rfl rfl)⟩, List.forall_mem_cons.mpr ⟨⟨by decide, by decide, (wsm_6 (i := 36) rfl rfl)⟩, List.forall_mem_cons.mpr ⟨⟨by decide, by decide, (wsm_6 (i := 37) rfl rfl)⟩, List.forall_mem_cons.mpr ⟨⟨by decide, by decide, (wsm_6 (i := 38) rfl rfl)⟩, List.forall_mem_cons.mpr ⟨⟨by decide, by decide, (wsm_6 (i := 39) rfl rfl)⟩, List.forall_mem_cons.mpr ⟨⟨by decide, by decide, (wsm_6 (i := 40) rfl rfl)⟩, List.forall_mem_cons.mpr ⟨⟨by decide, by decide, (wsm_6 (i := 41) rfl rfl)⟩, List.forall_mem_cons.mpr ⟨⟨by decide, by decide, (wsm_6 (i := 42) rfl rfl)⟩, List.forall_mem_cons.mpr ⟨⟨by decide, by decide, (wsm_6 (i := 43) rfl rfl)⟩, List.forall_mem_cons.mpr ⟨⟨by decide, by decide, (wsm_6 (i := 44) rfl rfl)⟩, List.forall_mem_cons.mpr ⟨⟨by decide, by decide, (wsm_6 (i := 45) rfl rfl)⟩, List.forall_mem_cons.mpr ⟨⟨by decide, by decide, (wsm_6 (i := 46) rfl rfl)⟩, List.forall_mem_cons.mpr ⟨⟨by decide, by decide, (wsm_6 (i := 47) rfl rfl)⟩, List.forall_mem_cons.mpr ⟨⟨by decide, by decide, (wsm_6 (i := 48) rfl rfl)⟩, List.forall_mem_cons.mpr ⟨⟨by decide, by decide, (wsm_6 (i := 49) rfl rfl)⟩, List.forall_mem_cons.mpr ⟨⟨by decide, by decide, (wsm_6 (i := 50) rfl rfl)⟩, List.forall_mem_cons.mpr ⟨⟨by decide, by decide, (wsm_6 (i := 51) rfl rfl)⟩, List.forall_mem_cons.mpr ⟨⟨by decide, by decide, (wsm_6 (i := 52) rfl rfl)⟩, List.forall_mem_cons.mpr ⟨⟨by decide, by decide, (wsm_6 (i := 53) rfl rfl)⟩, List.forall_mem_cons.mpr ⟨⟨by decide, by decide, (wsm_6 (i := 54) rfl rfl)⟩, List.forall_mem_cons.mpr ⟨⟨by decide, by decide, (wsm_6 (i := 55) rfl rfl)⟩, List.forall_mem_cons.mpr ⟨⟨by decide, by decide, (wsm_6 (i := 56) rfl rfl)⟩, List.forall_mem_cons.mpr ⟨⟨by decide, by decide, (wsm_6 (i := 57) rfl rfl)⟩, List.forall_mem_cons.mpr ⟨⟨by decide, by decide, (wsm_6 (i := 58) rfl rfl)⟩, List.forall_mem_cons.mpr ⟨⟨by decide, by decide, (wsm_6 (i := 59) rfl rfl)⟩, List.forall_mem_cons.mpr ⟨⟨by decide, by decide, (wsm_6 (i := 60) rfl rfl)⟩, List.forall_mem_cons.mpr ⟨⟨by decide, by decide, (wsm_6 (i := 61) rfl rfl)⟩, List.forall_mem_cons.mpr ⟨⟨by decide, by decide, (wsm_6 (i := 62) rfl rfl)⟩, List.forall_mem_cons.mpr ⟨⟨by decide, by decide, (wsm_6 (i := 63) rfl rfl)⟩, List.forall_mem_cons.mpr ⟨⟨by decide, by decide, (wsm_6 (i := 64) rfl rfl)⟩, (fun _ h => absurd h List.not_mem_nil)⟩⟩⟩⟩⟩⟩⟩⟩⟩⟩⟩⟩⟩⟩⟩⟩⟩⟩⟩⟩⟩⟩⟩⟩⟩⟩⟩⟩⟩⟩⟩⟩
theorem KRX12_ok : ∀ e ∈ KRX12, Cond.constant RX12 e.1 e.2 ∈ WS := List.forall_mem_cons.mpr ⟨(wsm_6 (i := 188) rfl rfl), List.forall_mem_cons.mpr ⟨(wsm_8 (i := 101) rfl rfl), (fun _ h => absurd h List.not_mem_nil)⟩⟩
theorem LRX12_ok : ∀ e ∈ LRX12, Cond.constantLong RX12 e.1 e.2 ∈ WS := List.forall_mem_cons.mpr ⟨(wsm_6 (i := 192) rfl rfl), List.forall_mem_cons.mpr ⟨(wsm_7 (i := 198) rfl rfl), List.forall_mem_cons.mpr ⟨(wsm_7 (i := 199) rfl rfl), List.forall_mem_cons.mpr ⟨(wsm_7 (i := 200) rfl rfl), List.forall_mem_cons.mpr ⟨(wsm_7 (i := 230) rfl rfl), List.forall_mem_cons.mpr ⟨(wsm_7 (i := 231) rfl rfl), List.forall_mem_cons.mpr ⟨(wsm_7 (i := 232) rfl rfl), (fun _ h => absurd h List.not_mem_nil)⟩⟩⟩⟩⟩⟩⟩
def FRX2 : List (Nat × Nat × Nat) := [(63, 8, 0), (59, 10, 0), (40, 10, 8), (49, 10, 9), (52, 10, 10), (35, 10, 11), (9, 2, 0), (15, 2, 1), (26, 2, 2), (22, 2, 3)]
def KRX2 : List (Nat × Int32) := [(72, 1000000)]
def LRX2 : List (Nat × Int64) := []
theorem FRX2_ok : ∀ e ∈ FRX2, e.2.1 < 13 ∧ e.2.2 < (cN e.2.1).2.2 ∧ Cond.fieldLink RX2 e.1 ((cN e.2.1).2.1 e.2.2).1 ((cN e.2.1).2.1 e.2.2).2.1 ((cN e.2.1).2.1 e.2.2).2.2.1 ∈ WS := List.forall_mem_cons.mpr ⟨⟨by decide, by decide, (wsm_1 (i := 46) rfl rfl)⟩, List.forall_mem_cons.mpr ⟨⟨by decide, by decide, (wsm_1 (i := 132) rfl rfl)⟩, List.forall_mem_cons.mpr ⟨⟨by decide, by decide, (wsm_1 (i := 147) rfl rfl)⟩, List.forall_mem_cons.mpr ⟨⟨by decide, by decide, (wsm_1 (i := 150) rfl rfl)⟩, List.forall_mem_cons.mpr ⟨⟨by decide, by decide, (wsm_1 (i := 153) rfl rfl)⟩, List.forall_mem_cons.mpr ⟨⟨by decide, by decide, (wsm_1 (i := 156) rfl rfl)⟩, List.forall_mem_cons.mpr ⟨⟨by decide, by decide, (wsm_2 (i := 88) rfl rfl)⟩, List.forall_mem_cons.mpr ⟨⟨by decide, by decide, (wsm_2 (i := 89) rfl rfl)⟩, List.forall_mem_cons.mpr ⟨⟨by decide, by decide, (wsm_2 (i := 90) rfl rfl)⟩, List.forall_mem_cons.mpr ⟨⟨by decide, by decide, (wsm_2 (i := 91) rfl rfl)⟩, (fun _ h => absurd h List.not_mem_nil)⟩⟩⟩⟩⟩⟩⟩⟩⟩⟩
theorem KRX2_ok : ∀ e ∈ KRX2, Cond.constant RX2 e.1 e.2 ∈ WS := List.forall_mem_cons.mpr ⟨(wsm_5 (i := 180) rfl rfl), (fun _ h => absurd h List.not_mem_nil)⟩
theorem LRX2_ok : ∀ e ∈ LRX2, Cond.constantLong RX2 e.1 e.2 ∈ WS := (fun _ h => absurd h List.not_mem_nil)
def FRX3 : List (Nat × Nat × Nat) := [(77, 3, 0), (54, 3, 1), (81, 3, 2), (12, 3, 3), (43, 3, 4), (20, 3, 5), (57, 3, 6), (24, 3, 7), (27, 3, 8), (66, 3, 9), (30, 3, 10), (33, 3, 11), (101, 3, 12)]
def KRX3 : List (Nat × Int32) := []
def LRX3 : List (Nat × Int64) := []
theorem FRX3_ok : ∀ e ∈ FRX3, e.2.1 < 13 ∧ e.2.2 < (cN e.2.1).2.2 ∧ Cond.fieldLink RX3 e.1 ((cN e.2.1).2.1 e.2.2).1 ((cN e.2.1).2.1 e.2.2).2.1 ((cN e.2.1).2.1 e.2.2).2.2.1 ∈ WS := List.forall_mem_cons.mpr ⟨⟨by decide, by decide, (wsm_1 (i := 236) rfl rfl)⟩, List.forall_mem_cons.mpr ⟨⟨by decide, by decide, (wsm_1 (i := 238) rfl rfl)⟩, List.forall_mem_cons.mpr ⟨⟨by decide, by decide, (wsm_2 (i := 0) rfl rfl)⟩, List.forall_mem_cons.mpr ⟨⟨by decide, by decide, (wsm_2 (i := 2) rfl rfl)⟩, List.forall_mem_cons.mpr ⟨⟨by decide, by decide, (wsm_2 (i := 3) rfl rfl)⟩, List.forall_mem_cons.mpr ⟨⟨by decide, by decide, (wsm_2 (i := 4) rfl rfl)⟩, List.forall_mem_cons.mpr ⟨⟨by decide, by decide, (wsm_2 (i := 5) rfl rfl)⟩, List.forall_mem_cons.mpr ⟨⟨by decide, by decide, (wsm_2 (i := 6) rfl rfl)⟩, List.forall_mem_cons.mpr ⟨⟨by decide, by decide, (wsm_2 (i := 7) rfl rfl)⟩, List.forall_mem_cons.mpr ⟨⟨by decide, by decide, (wsm_2 (i := 8) rfl rfl)⟩, List.forall_mem_cons.mpr ⟨⟨by decide, by decide, (wsm_2 (i := 9) rfl rfl)⟩, List.forall_mem_cons.mpr ⟨⟨by decide, by decide, (wsm_2 (i := 10) rfl rfl)⟩, List.forall_mem_cons.mpr ⟨⟨by decide, by decide, (wsm_2 (i := 11) rfl rfl)⟩, (fun _ h => absurd h List.not_mem_nil)⟩⟩⟩⟩⟩⟩⟩⟩⟩⟩⟩⟩⟩
theorem KRX3_ok : ∀ e ∈ KRX3, Cond.constant RX3 e.1 e.2 ∈ WS := (fun _ h => absurd h List.not_mem_nil)
theorem LRX3_ok : ∀ e ∈ LRX3, Cond.constantLong RX3 e.1 e.2 ∈ WS := (fun _ h => absurd h List.not_mem_nil)
def FRX4 : List (Nat × Nat × Nat) := [(11, 4, 0), (21, 4, 1), (25, 4, 2)]
def KRX4 : List (Nat × Int32) := []
def LRX4 : List (Nat × Int64) := []
theorem FRX4_ok : ∀ e ∈ FRX4, e.2.1 < 13 ∧ e.2.2 < (cN e.2.1).2.2 ∧ Cond.fieldLink RX4 e.1 ((cN e.2.1).2.1 e.2.2).1 ((cN e.2.1).2.1 e.2.2).2.1 ((cN e.2.1).2.1 e.2.2).2.2.1 ∈ WS := List.forall_mem_cons.mpr ⟨⟨by decide, by decide, (wsm_1 (i := 117) rfl rfl)⟩, List.forall_mem_cons.mpr ⟨⟨by decide, by decide, (wsm_1 (i := 118) rfl rfl)⟩, List.forall_mem_cons.mpr ⟨⟨by decide, by decide, (wsm_1 (i := 119) rfl rfl)⟩, (fun _ h => absurd h List.not_mem_nil)⟩⟩⟩
theorem KRX4_ok : ∀ e ∈ KRX4, Cond.constant RX4 e.1 e.2 ∈ WS := (fun _ h => absurd h List.not_mem_nil)
theorem LRX4_ok : ∀ e ∈ LRX4, Cond.constantLong RX4 e.1 e.2 ∈ WS := (fun _ h => absurd h List.not_mem_nil)
def FRX5 : List (Nat × Nat × Nat) := [(9, 5, 0), (15, 5, 1)]
def KRX5 : List (Nat × Int32) := []
def LRX5 : List (Nat × Int64) := []
theorem FRX5_ok : ∀ e ∈ FRX5, e.2.1 < 13 ∧ e.2.2 < (cN e.2.1).2.2 ∧ Cond.fieldLink RX5 e.1 ((cN e.2.1).2.1 e.2.2).1 ((cN e.2.1).2.1 e.2.2).2.1 ((cN e.2.1).2.1 e.2.2).2.2.1 ∈ WS := List.forall_mem_cons.mpr ⟨⟨by decide, by decide, (wsm_1 (i := 100) rfl rfl)⟩, List.forall_mem_cons.mpr ⟨⟨by decide, by decide, (wsm_1 (i := 102) rfl rfl)⟩, (fun _ h => absurd h List.not_mem_nil)⟩⟩
theorem KRX5_ok : ∀ e ∈ KRX5, Cond.constant RX5 e.1 e.2 ∈ WS := (fun _ h => absurd h List.not_mem_nil)
theorem LRX5_ok : ∀ e ∈ LRX5, Cond.constantLong RX5 e.1 e.2 ∈ WS := (fun _ h => absurd h List.not_mem_nil)
def FRX6 : List (Nat × Nat × Nat) := [(9, 6, 0), (15, 6, 1), (18, 6, 2), (21, 6, 3), (24, 6, 4)]
def KRX6 : List (Nat × Int32) := []
def LRX6 : List (Nat × Int64) := []
theorem FRX6_ok : ∀ e ∈ FRX6, e.2.1 < 13 ∧ e.2.2 < (cN e.2.1).2.2 ∧ Cond.fieldLink RX6 e.1 ((cN e.2.1).2.1 e.2.2).1 ((cN e.2.1).2.1 e.2.2).2.1 ((cN e.2.1).2.1 e.2.2).2.2.1 ∈ WS := List.forall_mem_cons.mpr ⟨⟨by decide, by decide, (wsm_3 (i := 200) rfl rfl)⟩, List.forall_mem_cons.mpr ⟨⟨by decide, by decide, (wsm_3 (i := 201) rfl rfl)⟩, List.forall_mem_cons.mpr ⟨⟨by decide, by decide, (wsm_3 (i := 202) rfl rfl)⟩, List.forall_mem_cons.mpr ⟨⟨by decide, by decide, (wsm_3 (i := 203) rfl rfl)⟩, List.forall_mem_cons.mpr ⟨⟨by decide, by decide, (wsm_3 (i := 204) rfl rfl)⟩, (fun _ h => absurd h List.not_mem_nil)⟩⟩⟩⟩⟩
theorem KRX6_ok : ∀ e ∈ KRX6, Cond.constant RX6 e.1 e.2 ∈ WS := (fun _ h => absurd h List.not_mem_nil)
theorem LRX6_ok : ∀ e ∈ LRX6, Cond.constantLong RX6 e.1 e.2 ∈ WS := (fun _ h => absurd h List.not_mem_nil)
def FRX7 : List (Nat × Nat × Nat) := [(9, 7, 0), (15, 7, 1), (18, 7, 2), (21, 7, 3)]
def KRX7 : List (Nat × Int32) := []
def LRX7 : List (Nat × Int64) := []
theorem FRX7_ok : ∀ e ∈ FRX7, e.2.1 < 13 ∧ e.2.2 < (cN e.2.1).2.2 ∧ Cond.fieldLink RX7 e.1 ((cN e.2.1).2.1 e.2.2).1 ((cN e.2.1).2.1 e.2.2).2.1 ((cN e.2.1).2.1 e.2.2).2.2.1 ∈ WS := List.forall_mem_cons.mpr ⟨⟨by decide, by decide, (wsm_1 (i := 223) rfl rfl)⟩, List.forall_mem_cons.mpr ⟨⟨by decide, by decide, (wsm_1 (i := 224) rfl rfl)⟩, List.forall_mem_cons.mpr ⟨⟨by decide, by decide, (wsm_1 (i := 225) rfl rfl)⟩, List.forall_mem_cons.mpr ⟨⟨by decide, by decide, (wsm_1 (i := 226) rfl rfl)⟩, (fun _ h => absurd h List.not_mem_nil)⟩⟩⟩⟩
theorem KRX7_ok : ∀ e ∈ KRX7, Cond.constant RX7 e.1 e.2 ∈ WS := (fun _ h => absurd h List.not_mem_nil)
theorem LRX7_ok : ∀ e ∈ LRX7, Cond.constantLong RX7 e.1 e.2 ∈ WS := (fun _ h => absurd h List.not_mem_nil)
def FRX8 : List (Nat × Nat × Nat) := [(31, 8, 0), (11, 8, 1), (15, 8, 2), (18, 8, 3), (21, 8, 4), (40, 8, 5), (43, 8, 6), (24, 8, 7), (28, 8, 8), (46, 8, 9), (73, 5, 1)]
def KRX8 : List (Nat × Int32) := []
def LRX8 : List (Nat × Int64) := []
theorem FRX8_ok : ∀ e ∈ FRX8, e.2.1 < 13 ∧ e.2.2 < (cN e.2.1).2.2 ∧ Cond.fieldLink RX8 e.1 ((cN e.2.1).2.1 e.2.2).1 ((cN e.2.1).2.1 e.2.2).2.1 ((cN e.2.1).2.1 e.2.2).2.2.1 ∈ WS := List.forall_mem_cons.mpr ⟨⟨by decide, by decide, (wsm_1 (i := 44) rfl rfl)⟩, List.forall_mem_cons.mpr ⟨⟨by decide, by decide, (wsm_1 (i := 48) rfl rfl)⟩, List.forall_mem_cons.mpr ⟨⟨by decide, by decide, (wsm_1 (i := 51) rfl rfl)⟩, List.forall_mem_cons.mpr ⟨⟨by decide, by decide, (wsm_1 (i := 54) rfl rfl)⟩, List.forall_mem_cons.mpr ⟨⟨by decide, by decide, (wsm_1 (i := 57) rfl rfl)⟩, List.forall_mem_cons.mpr ⟨⟨by decide, by decide, (wsm_1 (i := 60) rfl rfl)⟩, List.forall_mem_cons.mpr ⟨⟨by decide, by decide, (wsm_1 (i := 64) rfl rfl)⟩, List.forall_mem_cons.mpr ⟨⟨by decide, by decide, (wsm_1 (i := 66) rfl rfl)⟩, List.forall_mem_cons.mpr ⟨⟨by decide, by decide, (wsm_1 (i := 68) rfl rfl)⟩, List.forall_mem_cons.mpr ⟨⟨by decide, by decide, (wsm_1 (i := 70) rfl rfl)⟩, List.forall_mem_cons.mpr ⟨⟨by decide, by decide, (wsm_1 (i := 104) rfl rfl)⟩, (fun _ h => absurd h List.not_mem_nil)⟩⟩⟩⟩⟩⟩⟩⟩⟩⟩⟩
theorem KRX8_ok : ∀ e ∈ KRX8, Cond.constant RX8 e.1 e.2 ∈ WS := (fun _ h => absurd h List.not_mem_nil)
theorem LRX8_ok : ∀ e ∈ LRX8, Cond.constantLong RX8 e.1 e.2 ∈ WS := (fun _ h => absurd h List.not_mem_nil)
def FRX9 : List (Nat × Nat × Nat) := [(18, 5, 0), (9, 9, 0), (15, 9, 1)]
def KRX9 : List (Nat × Int32) := [(21, 1000000)]
def LRX9 : List (Nat × Int64) := []
theorem FRX9_ok : ∀ e ∈ FRX9, e.2.1 < 13 ∧ e.2.2 < (cN e.2.1).2.2 ∧ Cond.fieldLink RX9 e.1 ((cN e.2.1).2.1 e.2.2).1 ((cN e.2.1).2.1 e.2.2).2.1 ((cN e.2.1).2.1 e.2.2).2.2.1 ∈ WS := List.forall_mem_cons.mpr ⟨⟨by decide, by decide, (wsm_1 (i := 101) rfl rfl)⟩, List.forall_mem_cons.mpr ⟨⟨by decide, by decide, (wsm_2 (i := 45) rfl rfl)⟩, List.forall_mem_cons.mpr ⟨⟨by decide, by decide, (wsm_2 (i := 46) rfl rfl)⟩, (fun _ h => absurd h List.not_mem_nil)⟩⟩⟩
theorem KRX9_ok : ∀ e ∈ KRX9, Cond.constant RX9 e.1 e.2 ∈ WS := List.forall_mem_cons.mpr ⟨(wsm_5 (i := 27) rfl rfl), (fun _ h => absurd h List.not_mem_nil)⟩
theorem LRX9_ok : ∀ e ∈ LRX9, Cond.constantLong RX9 e.1 e.2 ∈ WS := (fun _ h => absurd h List.not_mem_nil)
def pX11_house : AP := (yX11_house, cX11_house, 3, (some FieldType.int), FRX11, KRX11, LRX11)
theorem okp_X11_house : POK pX11_house := ⟨(wsm_2 (i := 139) rfl rfl), by decide +kernel, FRX11_ok, KRX11_ok, LRX11_ok⟩
theorem nar_X11_house : nargs pX11_house 2 := by unfold nargs; decide +kernel
theorem vok_X11_house : VOK pX11_house := ⟨(wsm_2 (i := 137) rfl rfl), (wsm_2 (i := 138) rfl rfl), (wsm_1 (i := 1) rfl rfl), by decide, by decide⟩
def pX11_street : AP := (yX11_street, cX11_street, 4, (some FieldType.boolean), FRX11, KRX11, LRX11)
theorem okp_X11_street : POK pX11_street := ⟨(wsm_2 (i := 150) rfl rfl), by decide +kernel, FRX11_ok, KRX11_ok, LRX11_ok⟩
theorem nar_X11_street : nargs pX11_street 3 := by unfold nargs; decide +kernel
theorem vok_X11_street : VOK pX11_street := ⟨(wsm_2 (i := 148) rfl rfl), (wsm_2 (i := 149) rfl rfl), (wsm_1 (i := 1) rfl rfl), by decide, by decide⟩
def pX11_feed : AP := (yX11_feed, cX11_feed, 6, (some FieldType.int), FRX11, KRX11, LRX11)
theorem okp_X11_feed : POK pX11_feed := ⟨(wsm_2 (i := 163) rfl rfl), by decide +kernel, FRX11_ok, KRX11_ok, LRX11_ok⟩
theorem nar_X11_feed : nargs pX11_feed 5 := by unfold nargs; decide +kernel
theorem vok_X11_feed : VOK pX11_feed := ⟨(wsm_2 (i := 161) rfl rfl), (wsm_2 (i := 162) rfl rfl), (wsm_1 (i := 1) rfl rfl), by decide, by decide⟩
def pX11_end : AP := (yX11_end, cX11_end, 2, (some FieldType.int), FRX11, KRX11, LRX11)
theorem okp_X11_end : POK pX11_end := ⟨(wsm_2 (i := 171) rfl rfl), by decide +kernel, FRX11_ok, KRX11_ok, LRX11_ok⟩
theorem nar_X11_end : nargs pX11_end 1 := by unfold nargs; decide +kernel
theorem vok_X11_end : VOK pX11_end := ⟨(wsm_2 (i := 169) rfl rfl), (wsm_2 (i := 170) rfl rfl), (wsm_1 (i := 1) rfl rfl), by decide, by decide⟩
def pX11_fault : AP := (yX11_fault, cX11_fault, 2, (some FieldType.int), FRX11, KRX11, LRX11)
theorem okp_X11_fault : POK pX11_fault := ⟨(wsm_3 (i := 224) rfl rfl), by decide +kernel, FRX11_ok, KRX11_ok, LRX11_ok⟩
theorem nar_X11_fault : nargs pX11_fault 1 := by unfold nargs; decide +kernel
theorem vok_X11_fault : VOK pX11_fault := ⟨(wsm_3 (i := 222) rfl rfl), (wsm_3 (i := 223) rfl rfl), (wsm_1 (i := 1) rfl rfl), by decide, by decide⟩
def pX11_by : AP := (yX11_by, cX11_by, 2, (some FieldType.boolean), FRX11, KRX11, LRX11)
theorem okp_X11_by : POK pX11_by := ⟨(wsm_3 (i := 228) rfl rfl), by decide +kernel, FRX11_ok, KRX11_ok, LRX11_ok⟩
theorem nar_X11_by : nargs pX11_by 1 := by unfold nargs; decide +kernel
theorem vok_X11_by : VOK pX11_by := ⟨(wsm_3 (i := 226) rfl rfl), (wsm_3 (i := 227) rfl rfl), (wsm_1 (i := 1) rfl rfl), by decide, by decide⟩
def pX11_light : AP := (yX11_light, cX11_light, 2, (some FieldType.boolean), FRX11, KRX11, LRX11)
theorem okp_X11_light : POK pX11_light := ⟨(wsm_3 (i := 232) rfl rfl), by decide +kernel, FRX11_ok, KRX11_ok, LRX11_ok⟩
theorem nar_X11_light : nargs pX11_light 1 := by unfold nargs; decide +kernel
theorem vok_X11_light : VOK pX11_light := ⟨(wsm_3 (i := 230) rfl rfl), (wsm_3 (i := 231) rfl rfl), (wsm_1 (i := 1) rfl rfl), by decide, by decide⟩
def pX11_cover : AP := (yX11_cover, cX11_cover, 2, (some FieldType.boolean), FRX11, KRX11, LRX11)
theorem okp_X11_cover : POK pX11_cover := ⟨(wsm_4 (i := 34) rfl rfl), by decide +kernel, FRX11_ok, KRX11_ok, LRX11_ok⟩
theorem nar_X11_cover : nargs pX11_cover 1 := by unfold nargs; decide +kernel
theorem vok_X11_cover : VOK pX11_cover := ⟨(wsm_4 (i := 32) rfl rfl), (wsm_4 (i := 33) rfl rfl), (wsm_1 (i := 1) rfl rfl), by decide, by decide⟩
def pX11_open : AP := (yX11_open, cX11_open, 2, (some FieldType.boolean), FRX11, KRX11, LRX11)
theorem okp_X11_open : POK pX11_open := ⟨(wsm_4 (i := 38) rfl rfl), by decide +kernel, FRX11_ok, KRX11_ok, LRX11_ok⟩
theorem nar_X11_open : nargs pX11_open 1 := by unfold nargs; decide +kernel
theorem vok_X11_open : VOK pX11_open := ⟨(wsm_4 (i := 36) rfl rfl), (wsm_4 (i := 37) rfl rfl), (wsm_1 (i := 1) rfl rfl), by decide, by decide⟩
def pX11_fetch : AP := (yX11_fetch, cX11_fetch, 3, (some FieldType.int), FRX11, KRX11, LRX11)
theorem okp_X11_fetch : POK pX11_fetch := ⟨(wsm_4 (i := 42) rfl rfl), by decide +kernel, FRX11_ok, KRX11_ok, LRX11_ok⟩
theorem nar_X11_fetch : nargs pX11_fetch 2 := by unfold nargs; decide +kernel
theorem vok_X11_fetch : VOK pX11_fetch := ⟨(wsm_4 (i := 40) rfl rfl), (wsm_4 (i := 41) rfl rfl), (wsm_1 (i := 1) rfl rfl), by decide, by decide⟩
def pX11_quench : AP := (yX11_quench, cX11_quench, 2, (some FieldType.boolean), FRX11, KRX11, LRX11)
theorem okp_X11_quench : POK pX11_quench := ⟨(wsm_4 (i := 46) rfl rfl), by decide +kernel, FRX11_ok, KRX11_ok, LRX11_ok⟩
theorem nar_X11_quench : nargs pX11_quench 1 := by unfold nargs; decide +kernel
theorem vok_X11_quench : VOK pX11_quench := ⟨(wsm_4 (i := 44) rfl rfl), (wsm_4 (i := 45) rfl rfl), (wsm_1 (i := 1) rfl rfl), by decide, by decide⟩
def pX11_warden : AP := (yX11_warden, cX11_warden, 2, (some FieldType.int), FRX11, KRX11, LRX11)
theorem okp_X11_warden : POK pX11_warden := ⟨(wsm_4 (i := 50) rfl rfl), by decide +kernel, FRX11_ok, KRX11_ok, LRX11_ok⟩
theorem nar_X11_warden : nargs pX11_warden 1 := by unfold nargs; decide +kernel
theorem vok_X11_warden : VOK pX11_warden := ⟨(wsm_4 (i := 48) rfl rfl), (wsm_4 (i := 49) rfl rfl), (wsm_1 (i := 1) rfl rfl), by decide, by decide⟩
def pX11_hour : AP := (yX11_hour, cX11_hour, 2, (some FieldType.int), FRX11, KRX11, LRX11)
theorem okp_X11_hour : POK pX11_hour := ⟨(wsm_4 (i := 141) rfl rfl), by decide +kernel, FRX11_ok, KRX11_ok, LRX11_ok⟩
theorem nar_X11_hour : nargs pX11_hour 1 := by unfold nargs; decide +kernel
theorem vok_X11_hour : VOK pX11_hour := ⟨(wsm_4 (i := 139) rfl rfl), (wsm_4 (i := 140) rfl rfl), (wsm_1 (i := 1) rfl rfl), by decide, by decide⟩
def pX11_played : AP := (yX11_played, cX11_played, 6, (some FieldType.int), FRX11, KRX11, LRX11)
theorem okp_X11_played : POK pX11_played := ⟨(wsm_4 (i := 167) rfl rfl), by decide +kernel, FRX11_ok, KRX11_ok, LRX11_ok⟩
theorem nar_X11_played : nargs pX11_played 1 := by unfold nargs; decide +kernel
theorem vok_X11_played : VOK pX11_played := ⟨(wsm_4 (i := 165) rfl rfl), (wsm_4 (i := 166) rfl rfl), (wsm_1 (i := 1) rfl rfl), by decide, by decide⟩
def pX11_winters : AP := (yX11_winters, cX11_winters, 4, (some FieldType.int), FRX11, KRX11, LRX11)
theorem okp_X11_winters : POK pX11_winters := ⟨(wsm_4 (i := 191) rfl rfl), by decide +kernel, FRX11_ok, KRX11_ok, LRX11_ok⟩
theorem nar_X11_winters : nargs pX11_winters 2 := by unfold nargs; decide +kernel
theorem vok_X11_winters : VOK pX11_winters := ⟨(wsm_4 (i := 189) rfl rfl), (wsm_4 (i := 190) rfl rfl), (wsm_1 (i := 1) rfl rfl), by decide, by decide⟩
def pX11_undo : AP := (yX11_undo, cX11_undo, 1, (some FieldType.int), FRX11, KRX11, LRX11)
theorem okp_X11_undo : POK pX11_undo := ⟨(wsm_4 (i := 203) rfl rfl), by decide +kernel, FRX11_ok, KRX11_ok, LRX11_ok⟩
theorem nar_X11_undo : nargs pX11_undo 0 := by unfold nargs; decide +kernel
theorem vok_X11_undo : VOK pX11_undo := ⟨(wsm_4 (i := 201) rfl rfl), (wsm_4 (i := 202) rfl rfl), (wsm_1 (i := 1) rfl rfl), by decide, by decide⟩
def pX11_of : AP := (yX11_of, cX11_of, 4, (some FieldType.int), FRX11, KRX11, LRX11)
theorem okp_X11_of : POK pX11_of := ⟨(wsm_4 (i := 217) rfl rfl), by decide +kernel, FRX11_ok, KRX11_ok, LRX11_ok⟩
theorem nar_X11_of : nargs pX11_of 2 := by unfold nargs; decide +kernel
theorem vok_X11_of : VOK pX11_of := ⟨(wsm_4 (i := 215) rfl rfl), (wsm_4 (i := 216) rfl rfl), (wsm_1 (i := 1) rfl rfl), by decide, by decide⟩
def pX11_is : AP := (yX11_is, cX11_is, 2, (some FieldType.int), FRX11, KRX11, LRX11)
theorem okp_X11_is : POK pX11_is := ⟨(wsm_4 (i := 231) rfl rfl), by decide +kernel, FRX11_ok, KRX11_ok, LRX11_ok⟩
theorem nar_X11_is : nargs pX11_is 1 := by unfold nargs; decide +kernel
theorem vok_X11_is : VOK pX11_is := ⟨(wsm_4 (i := 229) rfl rfl), (wsm_4 (i := 230) rfl rfl), (wsm_1 (i := 1) rfl rfl), by decide, by decide⟩
def pX11_book : AP := (yX11_book, cX11_book, 4, (some FieldType.int), FRX11, KRX11, LRX11)
theorem okp_X11_book : POK pX11_book := ⟨(wsm_4 (i := 236) rfl rfl), by decide +kernel, FRX11_ok, KRX11_ok, LRX11_ok⟩
theorem nar_X11_book : nargs pX11_book 2 := by unfold nargs; decide +kernel
theorem vok_X11_book : VOK pX11_book := ⟨(wsm_4 (i := 234) rfl rfl), (wsm_4 (i := 235) rfl rfl), (wsm_1 (i := 1) rfl rfl), by decide, by decide⟩
def pX11_foretold : AP := (yX11_foretold, cX11_foretold, 5, (some FieldType.int), FRX11, KRX11, LRX11)
theorem okp_X11_foretold : POK pX11_foretold := ⟨(wsm_5 (i := 9) rfl rfl), by decide +kernel, FRX11_ok, KRX11_ok, LRX11_ok⟩
theorem nar_X11_foretold : nargs pX11_foretold 3 := by unfold nargs; decide +kernel
theorem vok_X11_foretold : VOK pX11_foretold := ⟨(wsm_5 (i := 7) rfl rfl), (wsm_5 (i := 8) rfl rfl), (wsm_1 (i := 1) rfl rfl), by decide, by decide⟩
def pX11_out : AP := (yX11_out, cX11_out, 3, (some FieldType.int), FRX11, KRX11, LRX11)
theorem okp_X11_out : POK pX11_out := ⟨(wsm_5 (i := 18) rfl rfl), by decide +kernel, FRX11_ok, KRX11_ok, LRX11_ok⟩
theorem nar_X11_out : nargs pX11_out 1 := by unfold nargs; decide +kernel
theorem vok_X11_out : VOK pX11_out := ⟨(wsm_5 (i := 16) rfl rfl), (wsm_5 (i := 17) rfl rfl), (wsm_1 (i := 1) rfl rfl), by decide, by decide⟩
def pX11_far : AP := (yX11_far, cX11_far, 4, (some FieldType.int), FRX11, KRX11, LRX11)
theorem okp_X11_far : POK pX11_far := ⟨(wsm_5 (i := 22) rfl rfl), by decide +kernel, FRX11_ok, KRX11_ok, LRX11_ok⟩
theorem nar_X11_far : nargs pX11_far 2 := by unfold nargs; decide +kernel
theorem vok_X11_far : VOK pX11_far := ⟨(wsm_5 (i := 20) rfl rfl), (wsm_5 (i := 21) rfl rfl), (wsm_1 (i := 1) rfl rfl), by decide, by decide⟩
def pX11_round : AP := (yX11_round, cX11_round, 2, (some FieldType.int), FRX11, KRX11, LRX11)
theorem okp_X11_round : POK pX11_round := ⟨(wsm_5 (i := 41) rfl rfl), by decide +kernel, FRX11_ok, KRX11_ok, LRX11_ok⟩
theorem nar_X11_round : nargs pX11_round 1 := by unfold nargs; decide +kernel
theorem vok_X11_round : VOK pX11_round := ⟨(wsm_5 (i := 39) rfl rfl), (wsm_5 (i := 40) rfl rfl), (wsm_1 (i := 1) rfl rfl), by decide, by decide⟩
def pX11_again : AP := (yX11_again, cX11_again, 2, (some FieldType.int), FRX11, KRX11, LRX11)
theorem okp_X11_again : POK pX11_again := ⟨(wsm_5 (i := 92) rfl rfl), by decide +kernel, FRX11_ok, KRX11_ok, LRX11_ok⟩
theorem nar_X11_again : nargs pX11_again 1 := by unfold nargs; decide +kernel
theorem vok_X11_again : VOK pX11_again := ⟨(wsm_5 (i := 90) rfl rfl), (wsm_5 (i := 91) rfl rfl), (wsm_1 (i := 1) rfl rfl), by decide, by decide⟩
def pX11_warmth : AP := (yX11_warmth, cX11_warmth, 3, (some FieldType.boolean), FRX11, KRX11, LRX11)
theorem okp_X11_warmth : POK pX11_warmth := ⟨(wsm_5 (i := 101) rfl rfl), by decide +kernel, FRX11_ok, KRX11_ok, LRX11_ok⟩
theorem nar_X11_warmth : nargs pX11_warmth 2 := by unfold nargs; decide +kernel
theorem vok_X11_warmth : VOK pX11_warmth := ⟨(wsm_5 (i := 99) rfl rfl), (wsm_5 (i := 100) rfl rfl), (wsm_1 (i := 1) rfl rfl), by decide, by decide⟩
def pX11_ring : AP := (yX11_ring, cX11_ring, 8, (some FieldType.int), FRX11, KRX11, LRX11)
theorem okp_X11_ring : POK pX11_ring := ⟨(wsm_5 (i := 105) rfl rfl), by decide +kernel, FRX11_ok, KRX11_ok, LRX11_ok⟩
theorem nar_X11_ring : nargs pX11_ring 1 := by unfold nargs; decide +kernel
theorem vok_X11_ring : VOK pX11_ring := ⟨(wsm_5 (i := 103) rfl rfl), (wsm_5 (i := 104) rfl rfl), (wsm_1 (i := 1) rfl rfl), by decide, by decide⟩
def pX11_dawn : AP := (yX11_dawn, cX11_dawn, 3, (some FieldType.int), FRX11, KRX11, LRX11)
theorem okp_X11_dawn : POK pX11_dawn := ⟨(wsm_5 (i := 109) rfl rfl), by decide +kernel, FRX11_ok, KRX11_ok, LRX11_ok⟩
theorem nar_X11_dawn : nargs pX11_dawn 2 := by unfold nargs; decide +kernel
theorem vok_X11_dawn : VOK pX11_dawn := ⟨(wsm_5 (i := 107) rfl rfl), (wsm_5 (i := 108) rfl rfl), (wsm_1 (i := 1) rfl rfl), by decide, by decide⟩
def pX11_chain : AP := (yX11_chain, cX11_chain, 5, (some FieldType.int), FRX11, KRX11, LRX11)
theorem okp_X11_chain : POK pX11_chain := ⟨(wsm_5 (i := 129) rfl rfl), by decide +kernel, FRX11_ok, KRX11_ok, LRX11_ok⟩
theorem nar_X11_chain : nargs pX11_chain 1 := by unfold nargs; decide +kernel
theorem vok_X11_chain : VOK pX11_chain := ⟨(wsm_5 (i := 127) rfl rfl), (wsm_5 (i := 128) rfl rfl), (wsm_1 (i := 1) rfl rfl), by decide, by decide⟩
def pX11_stone : AP := (yX11_stone, cX11_stone, 4, (some FieldType.int), FRX11, KRX11, LRX11)
theorem okp_X11_stone : POK pX11_stone := ⟨(wsm_5 (i := 135) rfl rfl), by decide +kernel, FRX11_ok, KRX11_ok, LRX11_ok⟩
theorem nar_X11_stone : nargs pX11_stone 2 := by unfold nargs; decide +kernel
theorem vok_X11_stone : VOK pX11_stone := ⟨(wsm_5 (i := 133) rfl rfl), (wsm_5 (i := 134) rfl rfl), (wsm_1 (i := 1) rfl rfl), by decide, by decide⟩
def pX11_seen : AP := (yX11_seen, cX11_seen, 4, (some FieldType.int), FRX11, KRX11, LRX11)
theorem okp_X11_seen : POK pX11_seen := ⟨(wsm_5 (i := 152) rfl rfl), by decide +kernel, FRX11_ok, KRX11_ok, LRX11_ok⟩
theorem nar_X11_seen : nargs pX11_seen 3 := by unfold nargs; decide +kernel
theorem vok_X11_seen : VOK pX11_seen := ⟨(wsm_5 (i := 150) rfl rfl), (wsm_5 (i := 151) rfl rfl), (wsm_1 (i := 1) rfl rfl), by decide, by decide⟩
def pX11_began : AP := (yX11_began, cX11_began, 4, (some FieldType.int), FRX11, KRX11, LRX11)
theorem okp_X11_began : POK pX11_began := ⟨(wsm_5 (i := 156) rfl rfl), by decide +kernel, FRX11_ok, KRX11_ok, LRX11_ok⟩
theorem nar_X11_began : nargs pX11_began 1 := by unfold nargs; decide +kernel
theorem vok_X11_began : VOK pX11_began := ⟨(wsm_5 (i := 154) rfl rfl), (wsm_5 (i := 155) rfl rfl), (wsm_1 (i := 1) rfl rfl), by decide, by decide⟩
def pX11_whom : AP := (yX11_whom, cX11_whom, 5, (some FieldType.int), FRX11, KRX11, LRX11)
theorem okp_X11_whom : POK pX11_whom := ⟨(wsm_5 (i := 171) rfl rfl), by decide +kernel, FRX11_ok, KRX11_ok, LRX11_ok⟩
theorem nar_X11_whom : nargs pX11_whom 0 := by unfold nargs; decide +kernel
theorem vok_X11_whom : VOK pX11_whom := ⟨(wsm_5 (i := 169) rfl rfl), (wsm_5 (i := 170) rfl rfl), (wsm_1 (i := 1) rfl rfl), by decide, by decide⟩
def pX11_bid : AP := (yX11_bid, cX11_bid, 3, (some FieldType.boolean), FRX11, KRX11, LRX11)
theorem okp_X11_bid : POK pX11_bid := ⟨(wsm_5 (i := 194) rfl rfl), by decide +kernel, FRX11_ok, KRX11_ok, LRX11_ok⟩
theorem nar_X11_bid : nargs pX11_bid 2 := by unfold nargs; decide +kernel
theorem vok_X11_bid : VOK pX11_bid := ⟨(wsm_5 (i := 192) rfl rfl), (wsm_5 (i := 193) rfl rfl), (wsm_1 (i := 1) rfl rfl), by decide, by decide⟩
def pX11_leave : AP := (yX11_leave, cX11_leave, 6, (some FieldType.int), FRX11, KRX11, LRX11)
theorem okp_X11_leave : POK pX11_leave := ⟨(wsm_5 (i := 198) rfl rfl), by decide +kernel, FRX11_ok, KRX11_ok, LRX11_ok⟩
theorem nar_X11_leave : nargs pX11_leave 2 := by unfold nargs; decide +kernel
theorem vok_X11_leave : VOK pX11_leave := ⟨(wsm_5 (i := 196) rfl rfl), (wsm_5 (i := 197) rfl rfl), (wsm_1 (i := 1) rfl rfl), by decide, by decide⟩
def pX11_cooled : AP := (yX11_cooled, cX11_cooled, 3, (some FieldType.int), FRX11, KRX11, LRX11)
theorem okp_X11_cooled : POK pX11_cooled := ⟨(wsm_5 (i := 206) rfl rfl), by decide +kernel, FRX11_ok, KRX11_ok, LRX11_ok⟩
theorem nar_X11_cooled : nargs pX11_cooled 2 := by unfold nargs; decide +kernel
theorem vok_X11_cooled : VOK pX11_cooled := ⟨(wsm_5 (i := 204) rfl rfl), (wsm_5 (i := 205) rfl rfl), (wsm_1 (i := 1) rfl rfl), by decide, by decide⟩
def pX11_whose : AP := (yX11_whose, cX11_whose, 3, (some FieldType.int), FRX11, KRX11, LRX11)
theorem okp_X11_whose : POK pX11_whose := ⟨(wsm_5 (i := 210) rfl rfl), by decide +kernel, FRX11_ok, KRX11_ok, LRX11_ok⟩
theorem nar_X11_whose : nargs pX11_whose 0 := by unfold nargs; decide +kernel
theorem vok_X11_whose : VOK pX11_whose := ⟨(wsm_5 (i := 208) rfl rfl), (wsm_5 (i := 209) rfl rfl), (wsm_1 (i := 1) rfl rfl), by decide, by decide⟩
def pX11_befell : AP := (yX11_befell, cX11_befell, 6, (some FieldType.int), FRX11, KRX11, LRX11)
theorem okp_X11_befell : POK pX11_befell := ⟨(wsm_5 (i := 218) rfl rfl), by decide +kernel, FRX11_ok, KRX11_ok, LRX11_ok⟩
theorem nar_X11_befell : nargs pX11_befell 2 := by unfold nargs; decide +kernel
theorem vok_X11_befell : VOK pX11_befell := ⟨(wsm_5 (i := 216) rfl rfl), (wsm_5 (i := 217) rfl rfl), (wsm_1 (i := 1) rfl rfl), by decide, by decide⟩
def pX11_parts : AP := (yX11_parts, cX11_parts, 1, (some FieldType.int), FRX11, KRX11, LRX11)
theorem okp_X11_parts : POK pX11_parts := ⟨(wsm_5 (i := 222) rfl rfl), by decide +kernel, FRX11_ok, KRX11_ok, LRX11_ok⟩
theorem nar_X11_parts : nargs pX11_parts 0 := by unfold nargs; decide +kernel
theorem vok_X11_parts : VOK pX11_parts := ⟨(wsm_5 (i := 220) rfl rfl), (wsm_5 (i := 221) rfl rfl), (wsm_1 (i := 1) rfl rfl), by decide, by decide⟩
def pX11_warmest : AP := (yX11_warmest, cX11_warmest, 4, (some FieldType.int), FRX11, KRX11, LRX11)
theorem okp_X11_warmest : POK pX11_warmest := ⟨(wsm_5 (i := 227) rfl rfl), by decide +kernel, FRX11_ok, KRX11_ok, LRX11_ok⟩
theorem nar_X11_warmest : nargs pX11_warmest 0 := by unfold nargs; decide +kernel
theorem vok_X11_warmest : VOK pX11_warmest := ⟨(wsm_5 (i := 225) rfl rfl), (wsm_5 (i := 226) rfl rfl), (wsm_1 (i := 1) rfl rfl), by decide, by decide⟩
def pX11_leaves : AP := (yX11_leaves, cX11_leaves, 3, (some FieldType.int), FRX11, KRX11, LRX11)
theorem okp_X11_leaves : POK pX11_leaves := ⟨(wsm_5 (i := 231) rfl rfl), by decide +kernel, FRX11_ok, KRX11_ok, LRX11_ok⟩
theorem nar_X11_leaves : nargs pX11_leaves 0 := by unfold nargs; decide +kernel
theorem vok_X11_leaves : VOK pX11_leaves := ⟨(wsm_5 (i := 229) rfl rfl), (wsm_5 (i := 230) rfl rfl), (wsm_1 (i := 1) rfl rfl), by decide, by decide⟩
def pX11_kept : AP := (yX11_kept, cX11_kept, 1, (some FieldType.int), FRX11, KRX11, LRX11)
theorem okp_X11_kept : POK pX11_kept := ⟨(wsm_5 (i := 235) rfl rfl), by decide +kernel, FRX11_ok, KRX11_ok, LRX11_ok⟩
theorem nar_X11_kept : nargs pX11_kept 0 := by unfold nargs; decide +kernel
theorem vok_X11_kept : VOK pX11_kept := ⟨(wsm_5 (i := 233) rfl rfl), (wsm_5 (i := 234) rfl rfl), (wsm_1 (i := 1) rfl rfl), by decide, by decide⟩
def pX11_image : AP := (yX11_image, cX11_image, 1, (some FieldType.int), FRX11, KRX11, LRX11)
theorem okp_X11_image : POK pX11_image := ⟨(wsm_5 (i := 239) rfl rfl), by decide +kernel, FRX11_ok, KRX11_ok, LRX11_ok⟩
theorem nar_X11_image : nargs pX11_image 0 := by unfold nargs; decide +kernel
theorem vok_X11_image : VOK pX11_image := ⟨(wsm_5 (i := 237) rfl rfl), (wsm_5 (i := 238) rfl rfl), (wsm_1 (i := 1) rfl rfl), by decide, by decide⟩
def pX11_back : AP := (yX11_back, cX11_back, 1, (some FieldType.int), FRX11, KRX11, LRX11)
theorem okp_X11_back : POK pX11_back := ⟨(wsm_6 (i := 19) rfl rfl), by decide +kernel, FRX11_ok, KRX11_ok, LRX11_ok⟩
theorem nar_X11_back : nargs pX11_back 0 := by unfold nargs; decide +kernel
theorem vok_X11_back : VOK pX11_back := ⟨(wsm_6 (i := 17) rfl rfl), (wsm_6 (i := 18) rfl rfl), (wsm_1 (i := 1) rfl rfl), by decide, by decide⟩
def pX11_about : AP := (yX11_about, cX11_about, 2, (some FieldType.int), FRX11, KRX11, LRX11)
theorem okp_X11_about : POK pX11_about := ⟨(wsm_6 (i := 23) rfl rfl), by decide +kernel, FRX11_ok, KRX11_ok, LRX11_ok⟩
theorem nar_X11_about : nargs pX11_about 1 := by unfold nargs; decide +kernel
theorem vok_X11_about : VOK pX11_about := ⟨(wsm_6 (i := 21) rfl rfl), (wsm_6 (i := 22) rfl rfl), (wsm_1 (i := 1) rfl rfl), by decide, by decide⟩
def pX11_within : AP := (yX11_within, cX11_within, 3, (some FieldType.boolean), FRX11, KRX11, LRX11)
theorem okp_X11_within : POK pX11_within := ⟨(wsm_2 (i := 146) rfl rfl), by decide +kernel, FRX11_ok, KRX11_ok, LRX11_ok⟩
theorem nar_X11_within : nargs pX11_within 3 := by unfold nargs; decide +kernel
theorem tok_X11_within : TOK pX11_within := ⟨(wsm_2 (i := 145) rfl rfl), (wsm_1 (i := 1) rfl rfl), by decide, by decide⟩
def pX11_putFour : AP := (yX11_putFour, cX11_putFour, 3, none, FRX11, KRX11, LRX11)
theorem okp_X11_putFour : POK pX11_putFour := ⟨(wsm_2 (i := 167) rfl rfl), by decide +kernel, FRX11_ok, KRX11_ok, LRX11_ok⟩
theorem nar_X11_putFour : nargs pX11_putFour 1 := by unfold nargs; decide +kernel
theorem vok_X11_putFour : VOK pX11_putFour := ⟨(wsm_2 (i := 166) rfl rfl), (wsm_0 (i := 0) rfl), (wsm_1 (i := 1) rfl rfl), by decide, by decide⟩
def pX11_tried : AP := (yX11_tried, cX11_tried, 4, (some FieldType.boolean), FRX11, KRX11, LRX11)
theorem okp_X11_tried : POK pX11_tried := ⟨(wsm_3 (i := 236) rfl rfl), by decide +kernel, FRX11_ok, KRX11_ok, LRX11_ok⟩
theorem nar_X11_tried : nargs pX11_tried 3 := by unfold nargs; decide +kernel
theorem vok_X11_tried : VOK pX11_tried := ⟨(wsm_3 (i := 235) rfl rfl), (wsm_0 (i := 22) rfl), (wsm_1 (i := 1) rfl rfl), by decide, by decide⟩
def pX11_passHours : AP := (yX11_passHours, cX11_passHours, 4, (some FieldType.int), FRX11, KRX11, LRX11)
theorem okp_X11_passHours : POK pX11_passHours := ⟨(wsm_4 (i := 145) rfl rfl), by decide +kernel, FRX11_ok, KRX11_ok, LRX11_ok⟩
theorem nar_X11_passHours : nargs pX11_passHours 1 := by unfold nargs; decide +kernel
theorem vok_X11_passHours : VOK pX11_passHours := ⟨(wsm_4 (i := 144) rfl rfl), (wsm_0 (i := 27) rfl), (wsm_1 (i := 1) rfl rfl), by decide, by decide⟩
def pX11_carriedOut : AP := (yX11_carriedOut, cX11_carriedOut, 6, (some FieldType.boolean), FRX11, KRX11, LRX11)
theorem okp_X11_carriedOut : POK pX11_carriedOut := ⟨(wsm_4 (i := 184) rfl rfl), by decide +kernel, FRX11_ok, KRX11_ok, LRX11_ok⟩
theorem nar_X11_carriedOut : nargs pX11_carriedOut 2 := by unfold nargs; decide +kernel
theorem vok_X11_carriedOut : VOK pX11_carriedOut := ⟨(wsm_4 (i := 183) rfl rfl), (wsm_0 (i := 29) rfl), (wsm_1 (i := 1) rfl rfl), by decide, by decide⟩
def pX11_befallByDraw : AP := (yX11_befallByDraw, cX11_befallByDraw, 7, none, FRX11, KRX11, LRX11)
theorem okp_X11_befallByDraw : POK pX11_befallByDraw := ⟨(wsm_4 (i := 196) rfl rfl), by decide +kernel, FRX11_ok, KRX11_ok, LRX11_ok⟩
theorem nar_X11_befallByDraw : nargs pX11_befallByDraw 1 := by unfold nargs; decide +kernel
theorem vok_X11_befallByDraw : VOK pX11_befallByDraw := ⟨(wsm_4 (i := 195) rfl rfl), (wsm_0 (i := 30) rfl), (wsm_1 (i := 1) rfl rfl), by decide, by decide⟩
def pX11_actOfDraw : AP := (yX11_actOfDraw, cX11_actOfDraw, 1, (some FieldType.int), FRX11, KRX11, LRX11)
theorem okp_X11_actOfDraw : POK pX11_actOfDraw := ⟨(wsm_4 (i := 199) rfl rfl), by decide +kernel, FRX11_ok, KRX11_ok, LRX11_ok⟩
theorem nar_X11_actOfDraw : nargs pX11_actOfDraw 1 := by unfold nargs; decide +kernel
theorem tok_X11_actOfDraw : TOK pX11_actOfDraw := ⟨(wsm_4 (i := 198) rfl rfl), (wsm_1 (i := 1) rfl rfl), by decide, by decide⟩
def pX11_rateNow : AP := (yX11_rateNow, cX11_rateNow, 3, (some FieldType.int), FRX11, KRX11, LRX11)
theorem okp_X11_rateNow : POK pX11_rateNow := ⟨(wsm_4 (i := 221) rfl rfl), by decide +kernel, FRX11_ok, KRX11_ok, LRX11_ok⟩
theorem nar_X11_rateNow : nargs pX11_rateNow 2 := by unfold nargs; decide +kernel
theorem vok_X11_rateNow : VOK pX11_rateNow := ⟨(wsm_4 (i := 220) rfl rfl), (wsm_0 (i := 31) rfl), (wsm_1 (i := 1) rfl rfl), by decide, by decide⟩
def pX11_stoneSet : AP := (yX11_stoneSet, cX11_stoneSet, 8, (some FieldType.int), FRX11, KRX11, LRX11)
theorem okp_X11_stoneSet : POK pX11_stoneSet := ⟨(wsm_5 (i := 139) rfl rfl), by decide +kernel, FRX11_ok, KRX11_ok, LRX11_ok⟩
theorem nar_X11_stoneSet : nargs pX11_stoneSet 1 := by unfold nargs; decide +kernel
theorem vok_X11_stoneSet : VOK pX11_stoneSet := ⟨(wsm_5 (i := 138) rfl rfl), (wsm_0 (i := 38) rfl), (wsm_1 (i := 1) rfl rfl), by decide, by decide⟩
def pX11_highestBidder : AP := (yX11_highestBidder, cX11_highestBidder, 5, (some FieldType.int), FRX11, KRX11, LRX11)
theorem okp_X11_highestBidder : POK pX11_highestBidder := ⟨(wsm_5 (i := 202) rfl rfl), by decide +kernel, FRX11_ok, KRX11_ok, LRX11_ok⟩
theorem nar_X11_highestBidder : nargs pX11_highestBidder 1 := by unfold nargs; decide +kernel
theorem vok_X11_highestBidder : VOK pX11_highestBidder := ⟨(wsm_5 (i := 201) rfl rfl), (wsm_0 (i := 41) rfl), (wsm_1 (i := 1) rfl rfl), by decide, by decide⟩
def pX11_coolsAsTold : AP := (yX11_coolsAsTold, cX11_coolsAsTold, 5, (some FieldType.boolean), FRX11, KRX11, LRX11)
theorem okp_X11_coolsAsTold : POK pX11_coolsAsTold := ⟨(wsm_5 (i := 214) rfl rfl), by decide +kernel, FRX11_ok, KRX11_ok, LRX11_ok⟩
theorem nar_X11_coolsAsTold : nargs pX11_coolsAsTold 1 := by unfold nargs; decide +kernel
theorem vok_X11_coolsAsTold : VOK pX11_coolsAsTold := ⟨(wsm_5 (i := 213) rfl rfl), (wsm_0 (i := 42) rfl), (wsm_1 (i := 1) rfl rfl), by decide, by decide⟩
def pX12_copy : AP := (yX12_copy, cX12_copy, 3, none, FRX12, KRX12, LRX12)
theorem okp_X12_copy : POK pX12_copy := ⟨(wsm_6 (i := 32) rfl rfl), by decide +kernel, FRX12_ok, KRX12_ok, LRX12_ok⟩
theorem nar_X12_copy : nargs pX12_copy 2 := by unfold nargs; decide +kernel
theorem tok_X12_copy : TOK pX12_copy := ⟨(wsm_6 (i := 31) rfl rfl), (wsm_1 (i := 12) rfl rfl), by decide, by decide⟩
def pX12_isIn : AP := (yX12_isIn, cX12_isIn, 3, (some FieldType.boolean), FRX12, KRX12, LRX12)
theorem okp_X12_isIn : POK pX12_isIn := ⟨(wsm_6 (i := 136) rfl rfl), by decide +kernel, FRX12_ok, KRX12_ok, LRX12_ok⟩
theorem nar_X12_isIn : nargs pX12_isIn 3 := by unfold nargs; decide +kernel
theorem tok_X12_isIn : TOK pX12_isIn := ⟨(wsm_6 (i := 135) rfl rfl), (wsm_1 (i := 12) rfl rfl), by decide, by decide⟩
def pX12_cut : AP := (yX12_cut, cX12_cut, 4, (some FieldType.int), FRX12, KRX12, LRX12)
theorem okp_X12_cut : POK pX12_cut := ⟨(wsm_7 (i := 209) rfl rfl), by decide +kernel, FRX12_ok, KRX12_ok, LRX12_ok⟩
theorem nar_X12_cut : nargs pX12_cut 3 := by unfold nargs; decide +kernel
theorem tok_X12_cut : TOK pX12_cut := ⟨(wsm_7 (i := 208) rfl rfl), (wsm_1 (i := 12) rfl rfl), by decide, by decide⟩
def pX12_has : AP := (yX12_has, cX12_has, 2, (some FieldType.boolean), FRX12, KRX12, LRX12)
theorem okp_X12_has : POK pX12_has := ⟨(wsm_6 (i := 229) rfl rfl), by decide +kernel, FRX12_ok, KRX12_ok, LRX12_ok⟩
theorem nar_X12_has : nargs pX12_has 2 := by unfold nargs; decide +kernel
theorem tok_X12_has : TOK pX12_has := ⟨(wsm_6 (i := 228) rfl rfl), (wsm_1 (i := 12) rfl rfl), by decide, by decide⟩
def pX12_bits : AP := (yX12_bits, cX12_bits, 3, (some FieldType.int), FRX12, KRX12, LRX12)
theorem okp_X12_bits : POK pX12_bits := ⟨(wsm_7 (i := 179) rfl rfl), by decide +kernel, FRX12_ok, KRX12_ok, LRX12_ok⟩
theorem nar_X12_bits : nargs pX12_bits 1 := by unfold nargs; decide +kernel
theorem tok_X12_bits : TOK pX12_bits := ⟨(wsm_7 (i := 178) rfl rfl), (wsm_1 (i := 12) rfl rfl), by decide, by decide⟩
def pX12_isHouse : AP := (yX12_isHouse, cX12_isHouse, 2, (some FieldType.boolean), FRX12, KRX12, LRX12)
theorem okp_X12_isHouse : POK pX12_isHouse := ⟨(wsm_6 (i := 156) rfl rfl), by decide +kernel, FRX12_ok, KRX12_ok, LRX12_ok⟩
theorem nar_X12_isHouse : nargs pX12_isHouse 1 := by unfold nargs; decide +kernel
theorem vok_X12_isHouse : VOK pX12_isHouse := ⟨(wsm_6 (i := 155) rfl rfl), (wsm_0 (i := 46) rfl), (wsm_1 (i := 12) rfl rfl), by decide, by decide⟩
def pX12_get : AP := (yX12_get, cX12_get, 3, (some FieldType.int), FRX12, KRX12, LRX12)
theorem okp_X12_get : POK pX12_get := ⟨(wsm_6 (i := 148) rfl rfl), by decide +kernel, FRX12_ok, KRX12_ok, LRX12_ok⟩
theorem nar_X12_get : nargs pX12_get 2 := by unfold nargs; decide +kernel
theorem vok_X12_get : VOK pX12_get := ⟨(wsm_6 (i := 147) rfl rfl), (wsm_0 (i := 45) rfl), (wsm_1 (i := 12) rfl rfl), by decide, by decide⟩
def pX12_put : AP := (yX12_put, cX12_put, 4, none, FRX12, KRX12, LRX12)
theorem okp_X12_put : POK pX12_put := ⟨(wsm_6 (i := 140) rfl rfl), by decide +kernel, FRX12_ok, KRX12_ok, LRX12_ok⟩
theorem nar_X12_put : nargs pX12_put 3 := by unfold nargs; decide +kernel
theorem vok_X12_put : VOK pX12_put := ⟨(wsm_6 (i := 139) rfl rfl), (wsm_0 (i := 43) rfl), (wsm_1 (i := 12) rfl rfl), by decide, by decide⟩
def pX12_lengthOf : AP := (yX12_lengthOf, cX12_lengthOf, 3, (some FieldType.int), FRX12, KRX12, LRX12)
theorem okp_X12_lengthOf : POK pX12_lengthOf := ⟨(wsm_7 (i := 140) rfl rfl), by decide +kernel, FRX12_ok, KRX12_ok, LRX12_ok⟩
theorem nar_X12_lengthOf : nargs pX12_lengthOf 2 := by unfold nargs; decide +kernel
theorem vok_X12_lengthOf : VOK pX12_lengthOf := ⟨(wsm_7 (i := 139) rfl rfl), (wsm_0 (i := 83) rfl), (wsm_1 (i := 12) rfl rfl), by decide, by decide⟩
def pX12_beside : AP := (yX12_beside, cX12_beside, 4, (some FieldType.int), FRX12, KRX12, LRX12)
theorem okp_X12_beside : POK pX12_beside := ⟨(wsm_7 (i := 176) rfl rfl), by decide +kernel, FRX12_ok, KRX12_ok, LRX12_ok⟩
theorem nar_X12_beside : nargs pX12_beside 1 := by unfold nargs; decide +kernel
theorem vok_X12_beside : VOK pX12_beside := ⟨(wsm_7 (i := 175) rfl rfl), (wsm_0 (i := 91) rfl), (wsm_1 (i := 12) rfl rfl), by decide, by decide⟩
def pX12_allOf : AP := (yX12_allOf, cX12_allOf, 4, (some FieldType.int), FRX12, KRX12, LRX12)
theorem okp_X12_allOf : POK pX12_allOf := ⟨(wsm_7 (i := 160) rfl rfl), by decide +kernel, FRX12_ok, KRX12_ok, LRX12_ok⟩
theorem nar_X12_allOf : nargs pX12_allOf 1 := by unfold nargs; decide +kernel
theorem vok_X12_allOf : VOK pX12_allOf := ⟨(wsm_7 (i := 159) rfl rfl), (wsm_0 (i := 87) rfl), (wsm_1 (i := 12) rfl rfl), by decide, by decide⟩
def pX12_isBell : AP := (yX12_isBell, cX12_isBell, 1, (some FieldType.boolean), FRX12, KRX12, LRX12)
theorem okp_X12_isBell : POK pX12_isBell := ⟨(wsm_7 (i := 156) rfl rfl), by decide +kernel, FRX12_ok, KRX12_ok, LRX12_ok⟩
theorem nar_X12_isBell : nargs pX12_isBell 0 := by unfold nargs; decide +kernel
theorem vok_X12_isBell : VOK pX12_isBell := ⟨(wsm_7 (i := 155) rfl rfl), (wsm_0 (i := 86) rfl), (wsm_1 (i := 12) rfl rfl), by decide, by decide⟩
def pX12_house : AP := (yX12_house, cX12_house, 4, (some FieldType.int), FRX12, KRX12, LRX12)
theorem okp_X12_house : POK pX12_house := ⟨(wsm_6 (i := 133) rfl rfl), by decide +kernel, FRX12_ok, KRX12_ok, LRX12_ok⟩
theorem nar_X12_house : nargs pX12_house 2 := by unfold nargs; decide +kernel
theorem vok_X12_house : VOK pX12_house := ⟨(wsm_6 (i := 131) rfl rfl), (wsm_6 (i := 132) rfl rfl), (wsm_1 (i := 12) rfl rfl), by decide, by decide⟩
def pX12_begin : AP := (yX12_begin, cX12_begin, 2, none, FRX12, KRX12, LRX12)
theorem okp_X12_begin : POK pX12_begin := ⟨(wsm_6 (i := 144) rfl rfl), by decide +kernel, FRX12_ok, KRX12_ok, LRX12_ok⟩
theorem nar_X12_begin : nargs pX12_begin 1 := by unfold nargs; decide +kernel
theorem vok_X12_begin : VOK pX12_begin := ⟨(wsm_6 (i := 143) rfl rfl), (wsm_0 (i := 44) rfl), (wsm_1 (i := 12) rfl rfl), by decide, by decide⟩
def pX12_street : AP := (yX12_street, cX12_street, 4, (some FieldType.boolean), FRX12, KRX12, LRX12)
theorem okp_X12_street : POK pX12_street := ⟨(wsm_6 (i := 152) rfl rfl), by decide +kernel, FRX12_ok, KRX12_ok, LRX12_ok⟩
theorem nar_X12_street : nargs pX12_street 3 := by unfold nargs; decide +kernel
theorem vok_X12_street : VOK pX12_street := ⟨(wsm_6 (i := 150) rfl rfl), (wsm_6 (i := 151) rfl rfl), (wsm_1 (i := 12) rfl rfl), by decide, by decide⟩
def pX12_four : AP := (yX12_four, cX12_four, 3, none, FRX12, KRX12, LRX12)
theorem okp_X12_four : POK pX12_four := ⟨(wsm_6 (i := 164) rfl rfl), by decide +kernel, FRX12_ok, KRX12_ok, LRX12_ok⟩
theorem nar_X12_four : nargs pX12_four 1 := by unfold nargs; decide +kernel
theorem vok_X12_four : VOK pX12_four := ⟨(wsm_6 (i := 163) rfl rfl), (wsm_0 (i := 47) rfl), (wsm_1 (i := 12) rfl rfl), by decide, by decide⟩
def pX12_feed : AP := (yX12_feed, cX12_feed, 6, (some FieldType.int), FRX12, KRX12, LRX12)
theorem okp_X12_feed : POK pX12_feed := ⟨(wsm_6 (i := 160) rfl rfl), by decide +kernel, FRX12_ok, KRX12_ok, LRX12_ok⟩
theorem nar_X12_feed : nargs pX12_feed 5 := by unfold nargs; decide +kernel
theorem vok_X12_feed : VOK pX12_feed := ⟨(wsm_6 (i := 158) rfl rfl), (wsm_6 (i := 159) rfl rfl), (wsm_1 (i := 12) rfl rfl), by decide, by decide⟩
def pX12_end : AP := (yX12_end, cX12_end, 2, (some FieldType.int), FRX12, KRX12, LRX12)
theorem okp_X12_end : POK pX12_end := ⟨(wsm_6 (i := 168) rfl rfl), by decide +kernel, FRX12_ok, KRX12_ok, LRX12_ok⟩
theorem nar_X12_end : nargs pX12_end 1 := by unfold nargs; decide +kernel
theorem vok_X12_end : VOK pX12_end := ⟨(wsm_6 (i := 166) rfl rfl), (wsm_6 (i := 167) rfl rfl), (wsm_1 (i := 12) rfl rfl), by decide, by decide⟩
def pX12_byteAt : AP := (yX12_byteAt, cX12_byteAt, 2, (some FieldType.int), FRX12, KRX12, LRX12)
theorem okp_X12_byteAt : POK pX12_byteAt := ⟨(wsm_6 (i := 184) rfl rfl), by decide +kernel, FRX12_ok, KRX12_ok, LRX12_ok⟩
theorem nar_X12_byteAt : nargs pX12_byteAt 1 := by unfold nargs; decide +kernel
theorem vok_X12_byteAt : VOK pX12_byteAt := ⟨(wsm_6 (i := 183) rfl rfl), (wsm_0 (i := 50) rfl), (wsm_1 (i := 12) rfl rfl), by decide, by decide⟩
def pX12_isLetterByte : AP := (yX12_isLetterByte, cX12_isLetterByte, 1, (some FieldType.boolean), FRX12, KRX12, LRX12)
theorem okp_X12_isLetterByte : POK pX12_isLetterByte := ⟨(wsm_6 (i := 191) rfl rfl), by decide +kernel, FRX12_ok, KRX12_ok, LRX12_ok⟩
theorem nar_X12_isLetterByte : nargs pX12_isLetterByte 1 := by unfold nargs; decide +kernel
theorem tok_X12_isLetterByte : TOK pX12_isLetterByte := ⟨(wsm_6 (i := 190) rfl rfl), (wsm_1 (i := 12) rfl rfl), by decide, by decide⟩
def pX12_isFigure : AP := (yX12_isFigure, cX12_isFigure, 1, (some FieldType.boolean), FRX12, KRX12, LRX12)
theorem okp_X12_isFigure : POK pX12_isFigure := ⟨(wsm_6 (i := 187) rfl rfl), by decide +kernel, FRX12_ok, KRX12_ok, LRX12_ok⟩
theorem nar_X12_isFigure : nargs pX12_isFigure 1 := by unfold nargs; decide +kernel
theorem tok_X12_isFigure : TOK pX12_isFigure := ⟨(wsm_6 (i := 186) rfl rfl), (wsm_1 (i := 12) rfl rfl), by decide, by decide⟩
def pX12_isSign : AP := (yX12_isSign, cX12_isSign, 1, (some FieldType.boolean), FRX12, KRX12, LRX12)
theorem okp_X12_isSign : POK pX12_isSign := ⟨(wsm_6 (i := 195) rfl rfl), by decide +kernel, FRX12_ok, KRX12_ok, LRX12_ok⟩
theorem nar_X12_isSign : nargs pX12_isSign 1 := by unfold nargs; decide +kernel
theorem tok_X12_isSign : TOK pX12_isSign := ⟨(wsm_6 (i := 194) rfl rfl), (wsm_1 (i := 12) rfl rfl), by decide, by decide⟩
def pX12_nextToken : AP := (yX12_nextToken, cX12_nextToken, 2, none, FRX12, KRX12, LRX12)
theorem okp_X12_nextToken : POK pX12_nextToken := ⟨(wsm_6 (i := 180) rfl rfl), by decide +kernel, FRX12_ok, KRX12_ok, LRX12_ok⟩
theorem nar_X12_nextToken : nargs pX12_nextToken 0 := by unfold nargs; decide +kernel
theorem vok_X12_nextToken : VOK pX12_nextToken := ⟨(wsm_6 (i := 179) rfl rfl), (wsm_0 (i := 49) rfl), (wsm_1 (i := 12) rfl rfl), by decide, by decide⟩
def pX12_w2 : AP := (yX12_w2, cX12_w2, 2, (some FieldType.long), FRX12, KRX12, LRX12)
theorem okp_X12_w2 : POK pX12_w2 := ⟨(wsm_6 (i := 215) rfl rfl), by decide +kernel, FRX12_ok, KRX12_ok, LRX12_ok⟩
theorem nar_X12_w2 : nargs pX12_w2 2 := by unfold nargs; decide +kernel
theorem tok_X12_w2 : TOK pX12_w2 := ⟨(wsm_6 (i := 214) rfl rfl), (wsm_1 (i := 12) rfl rfl), by decide, by decide⟩
def pX12_w3 : AP := (yX12_w3, cX12_w3, 3, (some FieldType.long), FRX12, KRX12, LRX12)
theorem okp_X12_w3 : POK pX12_w3 := ⟨(wsm_6 (i := 212) rfl rfl), by decide +kernel, FRX12_ok, KRX12_ok, LRX12_ok⟩
theorem nar_X12_w3 : nargs pX12_w3 3 := by unfold nargs; decide +kernel
theorem tok_X12_w3 : TOK pX12_w3 := ⟨(wsm_6 (i := 211) rfl rfl), (wsm_1 (i := 12) rfl rfl), by decide, by decide⟩
def pX12_w4 : AP := (yX12_w4, cX12_w4, 4, (some FieldType.long), FRX12, KRX12, LRX12)
theorem okp_X12_w4 : POK pX12_w4 := ⟨(wsm_6 (i := 209) rfl rfl), by decide +kernel, FRX12_ok, KRX12_ok, LRX12_ok⟩
theorem nar_X12_w4 : nargs pX12_w4 4 := by unfold nargs; decide +kernel
theorem tok_X12_w4 : TOK pX12_w4 := ⟨(wsm_6 (i := 208) rfl rfl), (wsm_1 (i := 12) rfl rfl), by decide, by decide⟩
def pX12_w5 : AP := (yX12_w5, cX12_w5, 5, (some FieldType.long), FRX12, KRX12, LRX12)
theorem okp_X12_w5 : POK pX12_w5 := ⟨(wsm_6 (i := 206) rfl rfl), by decide +kernel, FRX12_ok, KRX12_ok, LRX12_ok⟩
theorem nar_X12_w5 : nargs pX12_w5 5 := by unfold nargs; decide +kernel
theorem tok_X12_w5 : TOK pX12_w5 := ⟨(wsm_6 (i := 205) rfl rfl), (wsm_1 (i := 12) rfl rfl), by decide, by decide⟩
def pX12_w6 : AP := (yX12_w6, cX12_w6, 6, (some FieldType.long), FRX12, KRX12, LRX12)
theorem okp_X12_w6 : POK pX12_w6 := ⟨(wsm_6 (i := 226) rfl rfl), by decide +kernel, FRX12_ok, KRX12_ok, LRX12_ok⟩
theorem nar_X12_w6 : nargs pX12_w6 6 := by unfold nargs; decide +kernel
theorem tok_X12_w6 : TOK pX12_w6 := ⟨(wsm_6 (i := 225) rfl rfl), (wsm_1 (i := 12) rfl rfl), by decide, by decide⟩
def pX12_isWord : AP := (yX12_isWord, cX12_isWord, 3, (some FieldType.boolean), FRX12, KRX12, LRX12)
theorem okp_X12_isWord : POK pX12_isWord := ⟨(wsm_6 (i := 219) rfl rfl), by decide +kernel, FRX12_ok, KRX12_ok, LRX12_ok⟩
theorem nar_X12_isWord : nargs pX12_isWord 1 := by unfold nargs; decide +kernel
theorem vok_X12_isWord : VOK pX12_isWord := ⟨(wsm_6 (i := 218) rfl rfl), (wsm_0 (i := 53) rfl), (wsm_1 (i := 12) rfl rfl), by decide, by decide⟩
def pX12_emit : AP := (yX12_emit, cX12_emit, 3, none, FRX12, KRX12, LRX12)
theorem okp_X12_emit : POK pX12_emit := ⟨(wsm_7 (i := 48) rfl rfl), by decide +kernel, FRX12_ok, KRX12_ok, LRX12_ok⟩
theorem nar_X12_emit : nargs pX12_emit 2 := by unfold nargs; decide +kernel
theorem vok_X12_emit : VOK pX12_emit := ⟨(wsm_7 (i := 47) rfl rfl), (wsm_0 (i := 68) rfl), (wsm_1 (i := 12) rfl rfl), by decide, by decide⟩
def pX12_nameOf : AP := (yX12_nameOf, cX12_nameOf, 1, (some FieldType.int), FRX12, KRX12, LRX12)
theorem okp_X12_nameOf : POK pX12_nameOf := ⟨(wsm_7 (i := 64) rfl rfl), by decide +kernel, FRX12_ok, KRX12_ok, LRX12_ok⟩
theorem nar_X12_nameOf : nargs pX12_nameOf 0 := by unfold nargs; decide +kernel
theorem vok_X12_nameOf : VOK pX12_nameOf := ⟨(wsm_7 (i := 63) rfl rfl), (wsm_0 (i := 72) rfl), (wsm_1 (i := 12) rfl rfl), by decide, by decide⟩
def pX12_rank : AP := (yX12_rank, cX12_rank, 1, (some FieldType.int), FRX12, KRX12, LRX12)
theorem okp_X12_rank : POK pX12_rank := ⟨(wsm_7 (i := 36) rfl rfl), by decide +kernel, FRX12_ok, KRX12_ok, LRX12_ok⟩
theorem nar_X12_rank : nargs pX12_rank 1 := by unfold nargs; decide +kernel
theorem tok_X12_rank : TOK pX12_rank := ⟨(wsm_7 (i := 35) rfl rfl), (wsm_1 (i := 12) rfl rfl), by decide, by decide⟩
def pX12_settle : AP := (yX12_settle, cX12_settle, 2, none, FRX12, KRX12, LRX12)
theorem okp_X12_settle : POK pX12_settle := ⟨(wsm_7 (i := 44) rfl rfl), by decide +kernel, FRX12_ok, KRX12_ok, LRX12_ok⟩
theorem nar_X12_settle : nargs pX12_settle 1 := by unfold nargs; decide +kernel
theorem vok_X12_settle : VOK pX12_settle := ⟨(wsm_7 (i := 43) rfl rfl), (wsm_0 (i := 67) rfl), (wsm_1 (i := 12) rfl rfl), by decide, by decide⟩
def pX12_openAt : AP := (yX12_openAt, cX12_openAt, 2, (some FieldType.int), FRX12, KRX12, LRX12)
theorem okp_X12_openAt : POK pX12_openAt := ⟨(wsm_7 (i := 29) rfl rfl), by decide +kernel, FRX12_ok, KRX12_ok, LRX12_ok⟩
theorem nar_X12_openAt : nargs pX12_openAt 0 := by unfold nargs; decide +kernel
theorem vok_X12_openAt : VOK pX12_openAt := ⟨(wsm_7 (i := 28) rfl rfl), (wsm_0 (i := 64) rfl), (wsm_1 (i := 12) rfl rfl), by decide, by decide⟩
def pX12_openNow : AP := (yX12_openNow, cX12_openNow, 1, (some FieldType.int), FRX12, KRX12, LRX12)
theorem okp_X12_openNow : POK pX12_openNow := ⟨(wsm_7 (i := 25) rfl rfl), by decide +kernel, FRX12_ok, KRX12_ok, LRX12_ok⟩
theorem nar_X12_openNow : nargs pX12_openNow 0 := by unfold nargs; decide +kernel
theorem vok_X12_openNow : VOK pX12_openNow := ⟨(wsm_7 (i := 24) rfl rfl), (wsm_0 (i := 63) rfl), (wsm_1 (i := 12) rfl rfl), by decide, by decide⟩
def pX12_isCompared : AP := (yX12_isCompared, cX12_isCompared, 2, (some FieldType.boolean), FRX12, KRX12, LRX12)
theorem okp_X12_isCompared : POK pX12_isCompared := ⟨(wsm_7 (i := 33) rfl rfl), by decide +kernel, FRX12_ok, KRX12_ok, LRX12_ok⟩
theorem nar_X12_isCompared : nargs pX12_isCompared 0 := by unfold nargs; decide +kernel
theorem vok_X12_isCompared : VOK pX12_isCompared := ⟨(wsm_7 (i := 32) rfl rfl), (wsm_0 (i := 65) rfl), (wsm_1 (i := 12) rfl rfl), by decide, by decide⟩
def pX12_isAskAhead : AP := (yX12_isAskAhead, cX12_isAskAhead, 1, (some FieldType.boolean), FRX12, KRX12, LRX12)
theorem okp_X12_isAskAhead : POK pX12_isAskAhead := ⟨(wsm_7 (i := 72) rfl rfl), by decide +kernel, FRX12_ok, KRX12_ok, LRX12_ok⟩
theorem nar_X12_isAskAhead : nargs pX12_isAskAhead 0 := by unfold nargs; decide +kernel
theorem vok_X12_isAskAhead : VOK pX12_isAskAhead := ⟨(wsm_7 (i := 71) rfl rfl), (wsm_0 (i := 74) rfl), (wsm_1 (i := 12) rfl rfl), by decide, by decide⟩
def pX12_opened : AP := (yX12_opened, cX12_opened, 2, (some FieldType.int), FRX12, KRX12, LRX12)
theorem okp_X12_opened : POK pX12_opened := ⟨(wsm_7 (i := 68) rfl rfl), by decide +kernel, FRX12_ok, KRX12_ok, LRX12_ok⟩
theorem nar_X12_opened : nargs pX12_opened 1 := by unfold nargs; decide +kernel
theorem vok_X12_opened : VOK pX12_opened := ⟨(wsm_7 (i := 67) rfl rfl), (wsm_0 (i := 73) rfl), (wsm_1 (i := 12) rfl rfl), by decide, by decide⟩
def pX12_waits : AP := (yX12_waits, cX12_waits, 2, (some FieldType.int), FRX12, KRX12, LRX12)
theorem okp_X12_waits : POK pX12_waits := ⟨(wsm_7 (i := 52) rfl rfl), by decide +kernel, FRX12_ok, KRX12_ok, LRX12_ok⟩
theorem nar_X12_waits : nargs pX12_waits 1 := by unfold nargs; decide +kernel
theorem vok_X12_waits : VOK pX12_waits := ⟨(wsm_7 (i := 51) rfl rfl), (wsm_0 (i := 69) rfl), (wsm_1 (i := 12) rfl rfl), by decide, by decide⟩
def pX12_beginOne : AP := (yX12_beginOne, cX12_beginOne, 2, (some FieldType.int), FRX12, KRX12, LRX12)
theorem okp_X12_beginOne : POK pX12_beginOne := ⟨(wsm_7 (i := 60) rfl rfl), by decide +kernel, FRX12_ok, KRX12_ok, LRX12_ok⟩
theorem nar_X12_beginOne : nargs pX12_beginOne 0 := by unfold nargs; decide +kernel
theorem vok_X12_beginOne : VOK pX12_beginOne := ⟨(wsm_7 (i := 59) rfl rfl), (wsm_0 (i := 71) rfl), (wsm_1 (i := 12) rfl rfl), by decide, by decide⟩
def pX12_compareOf : AP := (yX12_compareOf, cX12_compareOf, 1, (some FieldType.int), FRX12, KRX12, LRX12)
theorem okp_X12_compareOf : POK pX12_compareOf := ⟨(wsm_7 (i := 40) rfl rfl), by decide +kernel, FRX12_ok, KRX12_ok, LRX12_ok⟩
theorem nar_X12_compareOf : nargs pX12_compareOf 0 := by unfold nargs; decide +kernel
theorem vok_X12_compareOf : VOK pX12_compareOf := ⟨(wsm_7 (i := 39) rfl rfl), (wsm_0 (i := 66) rfl), (wsm_1 (i := 12) rfl rfl), by decide, by decide⟩
def pX12_betweenOf : AP := (yX12_betweenOf, cX12_betweenOf, 1, (some FieldType.int), FRX12, KRX12, LRX12)
theorem okp_X12_betweenOf : POK pX12_betweenOf := ⟨(wsm_7 (i := 21) rfl rfl), by decide +kernel, FRX12_ok, KRX12_ok, LRX12_ok⟩
theorem nar_X12_betweenOf : nargs pX12_betweenOf 0 := by unfold nargs; decide +kernel
theorem vok_X12_betweenOf : VOK pX12_betweenOf := ⟨(wsm_7 (i := 20) rfl rfl), (wsm_0 (i := 62) rfl), (wsm_1 (i := 12) rfl rfl), by decide, by decide⟩
def pX12_partOf : AP := (yX12_partOf, cX12_partOf, 2, (some FieldType.int), FRX12, KRX12, LRX12)
theorem okp_X12_partOf : POK pX12_partOf := ⟨(wsm_7 (i := 56) rfl rfl), by decide +kernel, FRX12_ok, KRX12_ok, LRX12_ok⟩
theorem nar_X12_partOf : nargs pX12_partOf 1 := by unfold nargs; decide +kernel
theorem vok_X12_partOf : VOK pX12_partOf := ⟨(wsm_7 (i := 55) rfl rfl), (wsm_0 (i := 70) rfl), (wsm_1 (i := 12) rfl rfl), by decide, by decide⟩
def pX12_behindOne : AP := (yX12_behindOne, cX12_behindOne, 4, (some FieldType.boolean), FRX12, KRX12, LRX12)
theorem okp_X12_behindOne : POK pX12_behindOne := ⟨(wsm_7 (i := 17) rfl rfl), by decide +kernel, FRX12_ok, KRX12_ok, LRX12_ok⟩
theorem nar_X12_behindOne : nargs pX12_behindOne 0 := by unfold nargs; decide +kernel
theorem vok_X12_behindOne : VOK pX12_behindOne := ⟨(wsm_7 (i := 16) rfl rfl), (wsm_0 (i := 61) rfl), (wsm_1 (i := 12) rfl rfl), by decide, by decide⟩
def pX12_summed : AP := (yX12_summed, cX12_summed, 2, (some FieldType.int), FRX12, KRX12, LRX12)
theorem okp_X12_summed : POK pX12_summed := ⟨(wsm_7 (i := 13) rfl rfl), by decide +kernel, FRX12_ok, KRX12_ok, LRX12_ok⟩
theorem nar_X12_summed : nargs pX12_summed 0 := by unfold nargs; decide +kernel
theorem vok_X12_summed : VOK pX12_summed := ⟨(wsm_7 (i := 12) rfl rfl), (wsm_0 (i := 60) rfl), (wsm_1 (i := 12) rfl rfl), by decide, by decide⟩
def pX12_figure : AP := (yX12_figure, cX12_figure, 4, (some FieldType.int), FRX12, KRX12, LRX12)
theorem okp_X12_figure : POK pX12_figure := ⟨(wsm_7 (i := 1) rfl rfl), by decide +kernel, FRX12_ok, KRX12_ok, LRX12_ok⟩
theorem nar_X12_figure : nargs pX12_figure 3 := by unfold nargs; decide +kernel
theorem vok_X12_figure : VOK pX12_figure := ⟨(wsm_7 (i := 0) rfl rfl), (wsm_0 (i := 57) rfl), (wsm_1 (i := 12) rfl rfl), by decide, by decide⟩
def pX12_worded : AP := (yX12_worded, cX12_worded, 5, (some FieldType.int), FRX12, KRX12, LRX12)
theorem okp_X12_worded : POK pX12_worded := ⟨(wsm_7 (i := 5) rfl rfl), by decide +kernel, FRX12_ok, KRX12_ok, LRX12_ok⟩
theorem nar_X12_worded : nargs pX12_worded 3 := by unfold nargs; decide +kernel
theorem vok_X12_worded : VOK pX12_worded := ⟨(wsm_7 (i := 4) rfl rfl), (wsm_0 (i := 58) rfl), (wsm_1 (i := 12) rfl rfl), by decide, by decide⟩
def pX12_lawClause : AP := (yX12_lawClause, cX12_lawClause, 3, (some FieldType.int), FRX12, KRX12, LRX12)
theorem okp_X12_lawClause : POK pX12_lawClause := ⟨(wsm_7 (i := 9) rfl rfl), by decide +kernel, FRX12_ok, KRX12_ok, LRX12_ok⟩
theorem nar_X12_lawClause : nargs pX12_lawClause 1 := by unfold nargs; decide +kernel
theorem vok_X12_lawClause : VOK pX12_lawClause := ⟨(wsm_7 (i := 8) rfl rfl), (wsm_0 (i := 59) rfl), (wsm_1 (i := 12) rfl rfl), by decide, by decide⟩
def pX12_pair : AP := (yX12_pair, cX12_pair, 7, (some FieldType.int), FRX12, KRX12, LRX12)
theorem okp_X12_pair : POK pX12_pair := ⟨(wsm_6 (i := 237) rfl rfl), by decide +kernel, FRX12_ok, KRX12_ok, LRX12_ok⟩
theorem nar_X12_pair : nargs pX12_pair 4 := by unfold nargs; decide +kernel
theorem vok_X12_pair : VOK pX12_pair := ⟨(wsm_6 (i := 236) rfl rfl), (wsm_0 (i := 56) rfl), (wsm_1 (i := 12) rfl rfl), by decide, by decide⟩
def pX12_body : AP := (yX12_body, cX12_body, 4, (some FieldType.int), FRX12, KRX12, LRX12)
theorem okp_X12_body : POK pX12_body := ⟨(wsm_6 (i := 233) rfl rfl), by decide +kernel, FRX12_ok, KRX12_ok, LRX12_ok⟩
theorem nar_X12_body : nargs pX12_body 2 := by unfold nargs; decide +kernel
theorem vok_X12_body : VOK pX12_body := ⟨(wsm_6 (i := 232) rfl rfl), (wsm_0 (i := 55) rfl), (wsm_1 (i := 12) rfl rfl), by decide, by decide⟩
def pX12_isSpreads : AP := (yX12_isSpreads, cX12_isSpreads, 1, (some FieldType.boolean), FRX12, KRX12, LRX12)
theorem okp_X12_isSpreads : POK pX12_isSpreads := ⟨(wsm_6 (i := 223) rfl rfl), by decide +kernel, FRX12_ok, KRX12_ok, LRX12_ok⟩
theorem nar_X12_isSpreads : nargs pX12_isSpreads 0 := by unfold nargs; decide +kernel
theorem vok_X12_isSpreads : VOK pX12_isSpreads := ⟨(wsm_6 (i := 222) rfl rfl), (wsm_0 (i := 54) rfl), (wsm_1 (i := 12) rfl rfl), by decide, by decide⟩
def pX12_sortOf : AP := (yX12_sortOf, cX12_sortOf, 1, (some FieldType.int), FRX12, KRX12, LRX12)
theorem okp_X12_sortOf : POK pX12_sortOf := ⟨(wsm_6 (i := 203) rfl rfl), by decide +kernel, FRX12_ok, KRX12_ok, LRX12_ok⟩
theorem nar_X12_sortOf : nargs pX12_sortOf 0 := by unfold nargs; decide +kernel
theorem vok_X12_sortOf : VOK pX12_sortOf := ⟨(wsm_6 (i := 202) rfl rfl), (wsm_0 (i := 52) rfl), (wsm_1 (i := 12) rfl rfl), by decide, by decide⟩
def pX12_clause : AP := (yX12_clause, cX12_clause, 5, (some FieldType.int), FRX12, KRX12, LRX12)
theorem okp_X12_clause : POK pX12_clause := ⟨(wsm_6 (i := 199) rfl rfl), by decide +kernel, FRX12_ok, KRX12_ok, LRX12_ok⟩
theorem nar_X12_clause : nargs pX12_clause 0 := by unfold nargs; decide +kernel
theorem vok_X12_clause : VOK pX12_clause := ⟨(wsm_6 (i := 198) rfl rfl), (wsm_0 (i := 51) rfl), (wsm_1 (i := 12) rfl rfl), by decide, by decide⟩
def pX12_readText : AP := (yX12_readText, cX12_readText, 2, (some FieldType.int), FRX12, KRX12, LRX12)
theorem okp_X12_readText : POK pX12_readText := ⟨(wsm_6 (i := 176) rfl rfl), by decide +kernel, FRX12_ok, KRX12_ok, LRX12_ok⟩
theorem nar_X12_readText : nargs pX12_readText 0 := by unfold nargs; decide +kernel
theorem vok_X12_readText : VOK pX12_readText := ⟨(wsm_6 (i := 175) rfl rfl), (wsm_0 (i := 48) rfl), (wsm_1 (i := 12) rfl rfl), by decide, by decide⟩
def pX12_text : AP := (yX12_text, cX12_text, 1, (some FieldType.int), FRX12, KRX12, LRX12)
theorem okp_X12_text : POK pX12_text := ⟨(wsm_6 (i := 172) rfl rfl), by decide +kernel, FRX12_ok, KRX12_ok, LRX12_ok⟩
theorem nar_X12_text : nargs pX12_text 0 := by unfold nargs; decide +kernel
theorem vok_X12_text : VOK pX12_text := ⟨(wsm_6 (i := 170) rfl rfl), (wsm_6 (i := 171) rfl rfl), (wsm_1 (i := 12) rfl rfl), by decide, by decide⟩
def pX12_fault : AP := (yX12_fault, cX12_fault, 2, (some FieldType.int), FRX12, KRX12, LRX12)
theorem okp_X12_fault : POK pX12_fault := ⟨(wsm_7 (i := 76) rfl rfl), by decide +kernel, FRX12_ok, KRX12_ok, LRX12_ok⟩
theorem nar_X12_fault : nargs pX12_fault 1 := by unfold nargs; decide +kernel
theorem vok_X12_fault : VOK pX12_fault := ⟨(wsm_7 (i := 74) rfl rfl), (wsm_7 (i := 75) rfl rfl), (wsm_1 (i := 12) rfl rfl), by decide, by decide⟩
def pX12_by : AP := (yX12_by, cX12_by, 2, (some FieldType.boolean), FRX12, KRX12, LRX12)
theorem okp_X12_by : POK pX12_by := ⟨(wsm_7 (i := 80) rfl rfl), by decide +kernel, FRX12_ok, KRX12_ok, LRX12_ok⟩
theorem nar_X12_by : nargs pX12_by 1 := by unfold nargs; decide +kernel
theorem vok_X12_by : VOK pX12_by := ⟨(wsm_7 (i := 78) rfl rfl), (wsm_7 (i := 79) rfl rfl), (wsm_1 (i := 12) rfl rfl), by decide, by decide⟩
def pX12_clip : AP := (yX12_clip, cX12_clip, 2, (some FieldType.long), FRX12, KRX12, LRX12)
theorem okp_X12_clip : POK pX12_clip := ⟨(wsm_7 (i := 197) rfl rfl), by decide +kernel, FRX12_ok, KRX12_ok, LRX12_ok⟩
theorem nar_X12_clip : nargs pX12_clip 1 := by unfold nargs; decide +kernel
theorem tok_X12_clip : TOK pX12_clip := ⟨(wsm_7 (i := 196) rfl rfl), (wsm_1 (i := 12) rfl rfl), by decide, by decide⟩
def pX12_two : AP := (yX12_two, cX12_two, 5, (some FieldType.long), FRX12, KRX12, LRX12)
theorem okp_X12_two : POK pX12_two := ⟨(wsm_7 (i := 194) rfl rfl), by decide +kernel, FRX12_ok, KRX12_ok, LRX12_ok⟩
theorem nar_X12_two : nargs pX12_two 3 := by unfold nargs; decide +kernel
theorem tok_X12_two : TOK pX12_two := ⟨(wsm_7 (i := 193) rfl rfl), (wsm_1 (i := 12) rfl rfl), by decide, by decide⟩
def pX12_isAsked : AP := (yX12_isAsked, cX12_isAsked, 5, (some FieldType.boolean), FRX12, KRX12, LRX12)
theorem okp_X12_isAsked : POK pX12_isAsked := ⟨(wsm_7 (i := 203) rfl rfl), by decide +kernel, FRX12_ok, KRX12_ok, LRX12_ok⟩
theorem nar_X12_isAsked : nargs pX12_isAsked 3 := by unfold nargs; decide +kernel
theorem tok_X12_isAsked : TOK pX12_isAsked := ⟨(wsm_7 (i := 202) rfl rfl), (wsm_1 (i := 12) rfl rfl), by decide, by decide⟩
def pX12_warmOf : AP := (yX12_warmOf, cX12_warmOf, 3, (some FieldType.long), FRX12, KRX12, LRX12)
theorem okp_X12_warmOf : POK pX12_warmOf := ⟨(wsm_7 (i := 191) rfl rfl), by decide +kernel, FRX12_ok, KRX12_ok, LRX12_ok⟩
theorem nar_X12_warmOf : nargs pX12_warmOf 1 := by unfold nargs; decide +kernel
theorem vok_X12_warmOf : VOK pX12_warmOf := ⟨(wsm_7 (i := 190) rfl rfl), (wsm_0 (i := 94) rfl), (wsm_1 (i := 12) rfl rfl), by decide, by decide⟩
def pX12_joined : AP := (yX12_joined, cX12_joined, 3, (some FieldType.boolean), FRX12, KRX12, LRX12)
theorem okp_X12_joined : POK pX12_joined := ⟨(wsm_7 (i := 206) rfl rfl), by decide +kernel, FRX12_ok, KRX12_ok, LRX12_ok⟩
theorem nar_X12_joined : nargs pX12_joined 3 := by unfold nargs; decide +kernel
theorem tok_X12_joined : TOK pX12_joined := ⟨(wsm_7 (i := 205) rfl rfl), (wsm_1 (i := 12) rfl rfl), by decide, by decide⟩
def pX12_summedUp : AP := (yX12_summedUp, cX12_summedUp, 10, (some FieldType.long), FRX12, KRX12, LRX12)
theorem okp_X12_summedUp : POK pX12_summedUp := ⟨(wsm_7 (i := 187) rfl rfl), by decide +kernel, FRX12_ok, KRX12_ok, LRX12_ok⟩
theorem nar_X12_summedUp : nargs pX12_summedUp 2 := by unfold nargs; decide +kernel
theorem vok_X12_summedUp : VOK pX12_summedUp := ⟨(wsm_7 (i := 186) rfl rfl), (wsm_0 (i := 93) rfl), (wsm_1 (i := 12) rfl rfl), by decide, by decide⟩
def pX12_says : AP := (yX12_says, cX12_says, 6, (some FieldType.int), FRX12, KRX12, LRX12)
theorem okp_X12_says : POK pX12_says := ⟨(wsm_7 (i := 183) rfl rfl), by decide +kernel, FRX12_ok, KRX12_ok, LRX12_ok⟩
theorem nar_X12_says : nargs pX12_says 4 := by unfold nargs; decide +kernel
theorem vok_X12_says : VOK pX12_says := ⟨(wsm_7 (i := 182) rfl rfl), (wsm_0 (i := 92) rfl), (wsm_1 (i := 12) rfl rfl), by decide, by decide⟩
def pX12_nearOf : AP := (yX12_nearOf, cX12_nearOf, 2, (some FieldType.int), FRX12, KRX12, LRX12)
theorem okp_X12_nearOf : POK pX12_nearOf := ⟨(wsm_7 (i := 172) rfl rfl), by decide +kernel, FRX12_ok, KRX12_ok, LRX12_ok⟩
theorem nar_X12_nearOf : nargs pX12_nearOf 1 := by unfold nargs; decide +kernel
theorem vok_X12_nearOf : VOK pX12_nearOf := ⟨(wsm_7 (i := 171) rfl rfl), (wsm_0 (i := 90) rfl), (wsm_1 (i := 12) rfl rfl), by decide, by decide⟩
def pX12_name : AP := (yX12_name, cX12_name, 2, none, FRX12, KRX12, LRX12)
theorem okp_X12_name : POK pX12_name := ⟨(wsm_7 (i := 168) rfl rfl), by decide +kernel, FRX12_ok, KRX12_ok, LRX12_ok⟩
theorem nar_X12_name : nargs pX12_name 1 := by unfold nargs; decide +kernel
theorem vok_X12_name : VOK pX12_name := ⟨(wsm_7 (i := 167) rfl rfl), (wsm_0 (i := 89) rfl), (wsm_1 (i := 12) rfl rfl), by decide, by decide⟩
def pX12_coolsOf : AP := (yX12_coolsOf, cX12_coolsOf, 3, (some FieldType.int), FRX12, KRX12, LRX12)
theorem okp_X12_coolsOf : POK pX12_coolsOf := ⟨(wsm_8 (i := 4) rfl rfl), by decide +kernel, FRX12_ok, KRX12_ok, LRX12_ok⟩
theorem nar_X12_coolsOf : nargs pX12_coolsOf 2 := by unfold nargs; decide +kernel
theorem vok_X12_coolsOf : VOK pX12_coolsOf := ⟨(wsm_8 (i := 3) rfl rfl), (wsm_0 (i := 101) rfl), (wsm_1 (i := 12) rfl rfl), by decide, by decide⟩
def pX12_spreadsOf : AP := (yX12_spreadsOf, cX12_spreadsOf, 2, (some FieldType.int), FRX12, KRX12, LRX12)
theorem okp_X12_spreadsOf : POK pX12_spreadsOf := ⟨(wsm_8 (i := 8) rfl rfl), by decide +kernel, FRX12_ok, KRX12_ok, LRX12_ok⟩
theorem nar_X12_spreadsOf : nargs pX12_spreadsOf 1 := by unfold nargs; decide +kernel
theorem vok_X12_spreadsOf : VOK pX12_spreadsOf := ⟨(wsm_8 (i := 7) rfl rfl), (wsm_0 (i := 102) rfl), (wsm_1 (i := 12) rfl rfl), by decide, by decide⟩
def pX12_fineOf : AP := (yX12_fineOf, cX12_fineOf, 2, (some FieldType.int), FRX12, KRX12, LRX12)
theorem okp_X12_fineOf : POK pX12_fineOf := ⟨(wsm_7 (i := 164) rfl rfl), by decide +kernel, FRX12_ok, KRX12_ok, LRX12_ok⟩
theorem nar_X12_fineOf : nargs pX12_fineOf 1 := by unfold nargs; decide +kernel
theorem vok_X12_fineOf : VOK pX12_fineOf := ⟨(wsm_7 (i := 163) rfl rfl), (wsm_0 (i := 88) rfl), (wsm_1 (i := 12) rfl rfl), by decide, by decide⟩
def pX12_write : AP := (yX12_write, cX12_write, 4, none, FRX12, KRX12, LRX12)
theorem okp_X12_write : POK pX12_write := ⟨(wsm_7 (i := 104) rfl rfl), by decide +kernel, FRX12_ok, KRX12_ok, LRX12_ok⟩
theorem nar_X12_write : nargs pX12_write 2 := by unfold nargs; decide +kernel
theorem vok_X12_write : VOK pX12_write := ⟨(wsm_7 (i := 103) rfl rfl), (wsm_0 (i := 78) rfl), (wsm_1 (i := 12) rfl rfl), by decide, by decide⟩
def pX12_drawn : AP := (yX12_drawn, cX12_drawn, 2, (some FieldType.int), FRX12, KRX12, LRX12)
theorem okp_X12_drawn : POK pX12_drawn := ⟨(wsm_7 (i := 225) rfl rfl), by decide +kernel, FRX12_ok, KRX12_ok, LRX12_ok⟩
theorem nar_X12_drawn : nargs pX12_drawn 0 := by unfold nargs; decide +kernel
theorem vok_X12_drawn : VOK pX12_drawn := ⟨(wsm_7 (i := 224) rfl rfl), (wsm_0 (i := 97) rfl), (wsm_1 (i := 12) rfl rfl), by decide, by decide⟩
def pX12_anew : AP := (yX12_anew, cX12_anew, 1, none, FRX12, KRX12, LRX12)
theorem okp_X12_anew : POK pX12_anew := ⟨(wsm_7 (i := 229) rfl rfl), by decide +kernel, FRX12_ok, KRX12_ok, LRX12_ok⟩
theorem nar_X12_anew : nargs pX12_anew 0 := by unfold nargs; decide +kernel
theorem vok_X12_anew : VOK pX12_anew := ⟨(wsm_7 (i := 228) rfl rfl), (wsm_0 (i := 98) rfl), (wsm_1 (i := 12) rfl rfl), by decide, by decide⟩
def pX12_isAlight : AP := (yX12_isAlight, cX12_isAlight, 2, (some FieldType.boolean), FRX12, KRX12, LRX12)
theorem okp_X12_isAlight : POK pX12_isAlight := ⟨(wsm_7 (i := 136) rfl rfl), by decide +kernel, FRX12_ok, KRX12_ok, LRX12_ok⟩
theorem nar_X12_isAlight : nargs pX12_isAlight 1 := by unfold nargs; decide +kernel
theorem vok_X12_isAlight : VOK pX12_isAlight := ⟨(wsm_7 (i := 135) rfl rfl), (wsm_0 (i := 82) rfl), (wsm_1 (i := 12) rfl rfl), by decide, by decide⟩
def pX12_cool : AP := (yX12_cool, cX12_cool, 2, none, FRX12, KRX12, LRX12)
theorem okp_X12_cool : POK pX12_cool := ⟨(wsm_8 (i := 0) rfl rfl), by decide +kernel, FRX12_ok, KRX12_ok, LRX12_ok⟩
theorem nar_X12_cool : nargs pX12_cool 1 := by unfold nargs; decide +kernel
theorem vok_X12_cool : VOK pX12_cool := ⟨(wsm_7 (i := 239) rfl rfl), (wsm_0 (i := 100) rfl), (wsm_1 (i := 12) rfl rfl), by decide, by decide⟩
def pX12_live : AP := (yX12_live, cX12_live, 3, none, FRX12, KRX12, LRX12)
theorem okp_X12_live : POK pX12_live := ⟨(wsm_7 (i := 236) rfl rfl), by decide +kernel, FRX12_ok, KRX12_ok, LRX12_ok⟩
theorem nar_X12_live : nargs pX12_live 1 := by unfold nargs; decide +kernel
theorem vok_X12_live : VOK pX12_live := ⟨(wsm_7 (i := 235) rfl rfl), (wsm_0 (i := 99) rfl), (wsm_1 (i := 12) rfl rfl), by decide, by decide⟩
def pX12_pass : AP := (yX12_pass, cX12_pass, 2, none, FRX12, KRX12, LRX12)
theorem okp_X12_pass : POK pX12_pass := ⟨(wsm_7 (i := 221) rfl rfl), by decide +kernel, FRX12_ok, KRX12_ok, LRX12_ok⟩
theorem nar_X12_pass : nargs pX12_pass 0 := by unfold nargs; decide +kernel
theorem vok_X12_pass : VOK pX12_pass := ⟨(wsm_7 (i := 220) rfl rfl), (wsm_0 (i := 96) rfl), (wsm_1 (i := 12) rfl rfl), by decide, by decide⟩
def pX12_keep : AP := (yX12_keep, cX12_keep, 4, none, FRX12, KRX12, LRX12)
theorem okp_X12_keep : POK pX12_keep := ⟨(wsm_7 (i := 96) rfl rfl), by decide +kernel, FRX12_ok, KRX12_ok, LRX12_ok⟩
theorem nar_X12_keep : nargs pX12_keep 0 := by unfold nargs; decide +kernel
theorem vok_X12_keep : VOK pX12_keep := ⟨(wsm_7 (i := 95) rfl rfl), (wsm_0 (i := 76) rfl), (wsm_1 (i := 12) rfl rfl), by decide, by decide⟩
def pX12_undo : AP := (yX12_undo, cX12_undo, 4, (some FieldType.int), FRX12, KRX12, LRX12)
theorem okp_X12_undo : POK pX12_undo := ⟨(wsm_7 (i := 84) rfl rfl), by decide +kernel, FRX12_ok, KRX12_ok, LRX12_ok⟩
theorem nar_X12_undo : nargs pX12_undo 0 := by unfold nargs; decide +kernel
theorem vok_X12_undo : VOK pX12_undo := ⟨(wsm_7 (i := 82) rfl rfl), (wsm_7 (i := 83) rfl rfl), (wsm_1 (i := 12) rfl rfl), by decide, by decide⟩
def pX12_lightNow : AP := (yX12_lightNow, cX12_lightNow, 2, none, FRX12, KRX12, LRX12)
theorem okp_X12_lightNow : POK pX12_lightNow := ⟨(wsm_7 (i := 100) rfl rfl), by decide +kernel, FRX12_ok, KRX12_ok, LRX12_ok⟩
theorem nar_X12_lightNow : nargs pX12_lightNow 1 := by unfold nargs; decide +kernel
theorem vok_X12_lightNow : VOK pX12_lightNow := ⟨(wsm_7 (i := 99) rfl rfl), (wsm_0 (i := 77) rfl), (wsm_1 (i := 12) rfl rfl), by decide, by decide⟩
def pX12_isSo : AP := (yX12_isSo, cX12_isSo, 3, (some FieldType.boolean), FRX12, KRX12, LRX12)
theorem okp_X12_isSo : POK pX12_isSo := ⟨(wsm_7 (i := 92) rfl rfl), by decide +kernel, FRX12_ok, KRX12_ok, LRX12_ok⟩
theorem nar_X12_isSo : nargs pX12_isSo 2 := by unfold nargs; decide +kernel
theorem vok_X12_isSo : VOK pX12_isSo := ⟨(wsm_7 (i := 91) rfl rfl), (wsm_0 (i := 75) rfl), (wsm_1 (i := 12) rfl rfl), by decide, by decide⟩
def pX12_light : AP := (yX12_light, cX12_light, 2, (some FieldType.boolean), FRX12, KRX12, LRX12)
theorem okp_X12_light : POK pX12_light := ⟨(wsm_7 (i := 88) rfl rfl), by decide +kernel, FRX12_ok, KRX12_ok, LRX12_ok⟩
theorem nar_X12_light : nargs pX12_light 1 := by unfold nargs; decide +kernel
theorem vok_X12_light : VOK pX12_light := ⟨(wsm_7 (i := 86) rfl rfl), (wsm_7 (i := 87) rfl rfl), (wsm_1 (i := 12) rfl rfl), by decide, by decide⟩
def pX12_turned : AP := (yX12_turned, cX12_turned, 4, (some FieldType.boolean), FRX12, KRX12, LRX12)
theorem okp_X12_turned : POK pX12_turned := ⟨(wsm_7 (i := 112) rfl rfl), by decide +kernel, FRX12_ok, KRX12_ok, LRX12_ok⟩
theorem nar_X12_turned : nargs pX12_turned 3 := by unfold nargs; decide +kernel
theorem vok_X12_turned : VOK pX12_turned := ⟨(wsm_7 (i := 111) rfl rfl), (wsm_0 (i := 79) rfl), (wsm_1 (i := 12) rfl rfl), by decide, by decide⟩
def pX12_cover : AP := (yX12_cover, cX12_cover, 2, (some FieldType.boolean), FRX12, KRX12, LRX12)
theorem okp_X12_cover : POK pX12_cover := ⟨(wsm_7 (i := 108) rfl rfl), by decide +kernel, FRX12_ok, KRX12_ok, LRX12_ok⟩
theorem nar_X12_cover : nargs pX12_cover 1 := by unfold nargs; decide +kernel
theorem vok_X12_cover : VOK pX12_cover := ⟨(wsm_7 (i := 106) rfl rfl), (wsm_7 (i := 107) rfl rfl), (wsm_1 (i := 12) rfl rfl), by decide, by decide⟩
def pX12_open : AP := (yX12_open, cX12_open, 2, (some FieldType.boolean), FRX12, KRX12, LRX12)
theorem okp_X12_open : POK pX12_open := ⟨(wsm_7 (i := 116) rfl rfl), by decide +kernel, FRX12_ok, KRX12_ok, LRX12_ok⟩
theorem nar_X12_open : nargs pX12_open 1 := by unfold nargs; decide +kernel
theorem vok_X12_open : VOK pX12_open := ⟨(wsm_7 (i := 114) rfl rfl), (wsm_7 (i := 115) rfl rfl), (wsm_1 (i := 12) rfl rfl), by decide, by decide⟩
def pX12_quench : AP := (yX12_quench, cX12_quench, 2, (some FieldType.boolean), FRX12, KRX12, LRX12)
theorem okp_X12_quench : POK pX12_quench := ⟨(wsm_7 (i := 120) rfl rfl), by decide +kernel, FRX12_ok, KRX12_ok, LRX12_ok⟩
theorem nar_X12_quench : nargs pX12_quench 1 := by unfold nargs; decide +kernel
theorem vok_X12_quench : VOK pX12_quench := ⟨(wsm_7 (i := 118) rfl rfl), (wsm_7 (i := 119) rfl rfl), (wsm_1 (i := 12) rfl rfl), by decide, by decide⟩
def pX12_isGiver : AP := (yX12_isGiver, cX12_isGiver, 2, (some FieldType.boolean), FRX12, KRX12, LRX12)
theorem okp_X12_isGiver : POK pX12_isGiver := ⟨(wsm_7 (i := 132) rfl rfl), by decide +kernel, FRX12_ok, KRX12_ok, LRX12_ok⟩
theorem nar_X12_isGiver : nargs pX12_isGiver 1 := by unfold nargs; decide +kernel
theorem vok_X12_isGiver : VOK pX12_isGiver := ⟨(wsm_7 (i := 131) rfl rfl), (wsm_0 (i := 81) rfl), (wsm_1 (i := 12) rfl rfl), by decide, by decide⟩
def pX12_canFetch : AP := (yX12_canFetch, cX12_canFetch, 3, (some FieldType.boolean), FRX12, KRX12, LRX12)
theorem okp_X12_canFetch : POK pX12_canFetch := ⟨(wsm_7 (i := 128) rfl rfl), by decide +kernel, FRX12_ok, KRX12_ok, LRX12_ok⟩
theorem nar_X12_canFetch : nargs pX12_canFetch 2 := by unfold nargs; decide +kernel
theorem vok_X12_canFetch : VOK pX12_canFetch := ⟨(wsm_7 (i := 127) rfl rfl), (wsm_0 (i := 80) rfl), (wsm_1 (i := 12) rfl rfl), by decide, by decide⟩
def pX12_fetchNow : AP := (yX12_fetchNow, cX12_fetchNow, 3, none, FRX12, KRX12, LRX12)
theorem okp_X12_fetchNow : POK pX12_fetchNow := ⟨(wsm_7 (i := 144) rfl rfl), by decide +kernel, FRX12_ok, KRX12_ok, LRX12_ok⟩
theorem nar_X12_fetchNow : nargs pX12_fetchNow 2 := by unfold nargs; decide +kernel
theorem vok_X12_fetchNow : VOK pX12_fetchNow := ⟨(wsm_7 (i := 143) rfl rfl), (wsm_0 (i := 84) rfl), (wsm_1 (i := 12) rfl rfl), by decide, by decide⟩
def pX12_fetch : AP := (yX12_fetch, cX12_fetch, 3, (some FieldType.int), FRX12, KRX12, LRX12)
theorem okp_X12_fetch : POK pX12_fetch := ⟨(wsm_7 (i := 124) rfl rfl), by decide +kernel, FRX12_ok, KRX12_ok, LRX12_ok⟩
theorem nar_X12_fetch : nargs pX12_fetch 2 := by unfold nargs; decide +kernel
theorem vok_X12_fetch : VOK pX12_fetch := ⟨(wsm_7 (i := 122) rfl rfl), (wsm_7 (i := 123) rfl rfl), (wsm_1 (i := 12) rfl rfl), by decide, by decide⟩
def pX12_wardenNow : AP := (yX12_wardenNow, cX12_wardenNow, 3, (some FieldType.int), FRX12, KRX12, LRX12)
theorem okp_X12_wardenNow : POK pX12_wardenNow := ⟨(wsm_7 (i := 152) rfl rfl), by decide +kernel, FRX12_ok, KRX12_ok, LRX12_ok⟩
theorem nar_X12_wardenNow : nargs pX12_wardenNow 1 := by unfold nargs; decide +kernel
theorem vok_X12_wardenNow : VOK pX12_wardenNow := ⟨(wsm_7 (i := 151) rfl rfl), (wsm_0 (i := 85) rfl), (wsm_1 (i := 12) rfl rfl), by decide, by decide⟩
def pX12_warden : AP := (yX12_warden, cX12_warden, 2, (some FieldType.int), FRX12, KRX12, LRX12)
theorem okp_X12_warden : POK pX12_warden := ⟨(wsm_7 (i := 148) rfl rfl), by decide +kernel, FRX12_ok, KRX12_ok, LRX12_ok⟩
theorem nar_X12_warden : nargs pX12_warden 1 := by unfold nargs; decide +kernel
theorem vok_X12_warden : VOK pX12_warden := ⟨(wsm_7 (i := 146) rfl rfl), (wsm_7 (i := 147) rfl rfl), (wsm_1 (i := 12) rfl rfl), by decide, by decide⟩
def pX12_arePassed : AP := (yX12_arePassed, cX12_arePassed, 3, (some FieldType.boolean), FRX12, KRX12, LRX12)
theorem okp_X12_arePassed : POK pX12_arePassed := ⟨(wsm_7 (i := 217) rfl rfl), by decide +kernel, FRX12_ok, KRX12_ok, LRX12_ok⟩
theorem nar_X12_arePassed : nargs pX12_arePassed 1 := by unfold nargs; decide +kernel
theorem vok_X12_arePassed : VOK pX12_arePassed := ⟨(wsm_7 (i := 216) rfl rfl), (wsm_0 (i := 95) rfl), (wsm_1 (i := 12) rfl rfl), by decide, by decide⟩
def pX12_hour : AP := (yX12_hour, cX12_hour, 2, (some FieldType.int), FRX12, KRX12, LRX12)
theorem okp_X12_hour : POK pX12_hour := ⟨(wsm_7 (i := 213) rfl rfl), by decide +kernel, FRX12_ok, KRX12_ok, LRX12_ok⟩
theorem nar_X12_hour : nargs pX12_hour 1 := by unfold nargs; decide +kernel
theorem vok_X12_hour : VOK pX12_hour := ⟨(wsm_7 (i := 211) rfl rfl), (wsm_7 (i := 212) rfl rfl), (wsm_1 (i := 12) rfl rfl), by decide, by decide⟩
def pX12_isPlayed : AP := (yX12_isPlayed, cX12_isPlayed, 4, (some FieldType.boolean), FRX12, KRX12, LRX12)
theorem okp_X12_isPlayed : POK pX12_isPlayed := ⟨(wsm_8 (i := 16) rfl rfl), by decide +kernel, FRX12_ok, KRX12_ok, LRX12_ok⟩
theorem nar_X12_isPlayed : nargs pX12_isPlayed 1 := by unfold nargs; decide +kernel
theorem vok_X12_isPlayed : VOK pX12_isPlayed := ⟨(wsm_8 (i := 15) rfl rfl), (wsm_0 (i := 103) rfl), (wsm_1 (i := 12) rfl rfl), by decide, by decide⟩
def pX12_played : AP := (yX12_played, cX12_played, 3, (some FieldType.int), FRX12, KRX12, LRX12)
theorem okp_X12_played : POK pX12_played := ⟨(wsm_8 (i := 12) rfl rfl), by decide +kernel, FRX12_ok, KRX12_ok, LRX12_ok⟩
theorem nar_X12_played : nargs pX12_played 1 := by unfold nargs; decide +kernel
theorem vok_X12_played : VOK pX12_played := ⟨(wsm_8 (i := 10) rfl rfl), (wsm_8 (i := 11) rfl rfl), (wsm_1 (i := 12) rfl rfl), by decide, by decide⟩
def pX12_happens : AP := (yX12_happens, cX12_happens, 3, none, FRX12, KRX12, LRX12)
theorem okp_X12_happens : POK pX12_happens := ⟨(wsm_8 (i := 32) rfl rfl), by decide +kernel, FRX12_ok, KRX12_ok, LRX12_ok⟩
theorem nar_X12_happens : nargs pX12_happens 1 := by unfold nargs; decide +kernel
theorem vok_X12_happens : VOK pX12_happens := ⟨(wsm_8 (i := 31) rfl rfl), (wsm_0 (i := 104) rfl), (wsm_1 (i := 12) rfl rfl), by decide, by decide⟩
def pX12_winters : AP := (yX12_winters, cX12_winters, 5, (some FieldType.int), FRX12, KRX12, LRX12)
theorem okp_X12_winters : POK pX12_winters := ⟨(wsm_8 (i := 28) rfl rfl), by decide +kernel, FRX12_ok, KRX12_ok, LRX12_ok⟩
theorem nar_X12_winters : nargs pX12_winters 2 := by unfold nargs; decide +kernel
theorem vok_X12_winters : VOK pX12_winters := ⟨(wsm_8 (i := 26) rfl rfl), (wsm_8 (i := 27) rfl rfl), (wsm_1 (i := 12) rfl rfl), by decide, by decide⟩
def pX12_of : AP := (yX12_of, cX12_of, 3, (some FieldType.int), FRX12, KRX12, LRX12)
theorem okp_X12_of : POK pX12_of := ⟨(wsm_8 (i := 36) rfl rfl), by decide +kernel, FRX12_ok, KRX12_ok, LRX12_ok⟩
theorem nar_X12_of : nargs pX12_of 2 := by unfold nargs; decide +kernel
theorem vok_X12_of : VOK pX12_of := ⟨(wsm_8 (i := 34) rfl rfl), (wsm_8 (i := 35) rfl rfl), (wsm_1 (i := 12) rfl rfl), by decide, by decide⟩
def pX12_is : AP := (yX12_is, cX12_is, 2, (some FieldType.int), FRX12, KRX12, LRX12)
theorem okp_X12_is : POK pX12_is := ⟨(wsm_8 (i := 40) rfl rfl), by decide +kernel, FRX12_ok, KRX12_ok, LRX12_ok⟩
theorem nar_X12_is : nargs pX12_is 1 := by unfold nargs; decide +kernel
theorem vok_X12_is : VOK pX12_is := ⟨(wsm_8 (i := 38) rfl rfl), (wsm_8 (i := 39) rfl rfl), (wsm_1 (i := 12) rfl rfl), by decide, by decide⟩
def pX12_entry : AP := (yX12_entry, cX12_entry, 3, (some FieldType.int), FRX12, KRX12, LRX12)
theorem okp_X12_entry : POK pX12_entry := ⟨(wsm_8 (i := 48) rfl rfl), by decide +kernel, FRX12_ok, KRX12_ok, LRX12_ok⟩
theorem nar_X12_entry : nargs pX12_entry 2 := by unfold nargs; decide +kernel
theorem vok_X12_entry : VOK pX12_entry := ⟨(wsm_8 (i := 47) rfl rfl), (wsm_0 (i := 105) rfl), (wsm_1 (i := 12) rfl rfl), by decide, by decide⟩
def pX12_book : AP := (yX12_book, cX12_book, 3, (some FieldType.int), FRX12, KRX12, LRX12)
theorem okp_X12_book : POK pX12_book := ⟨(wsm_8 (i := 44) rfl rfl), by decide +kernel, FRX12_ok, KRX12_ok, LRX12_ok⟩
theorem nar_X12_book : nargs pX12_book 2 := by unfold nargs; decide +kernel
theorem vok_X12_book : VOK pX12_book := ⟨(wsm_8 (i := 42) rfl rfl), (wsm_8 (i := 43) rfl rfl), (wsm_1 (i := 12) rfl rfl), by decide, by decide⟩
def pX12_befell : AP := (yX12_befell, cX12_befell, 5, (some FieldType.int), FRX12, KRX12, LRX12)
theorem okp_X12_befell : POK pX12_befell := ⟨(wsm_8 (i := 52) rfl rfl), by decide +kernel, FRX12_ok, KRX12_ok, LRX12_ok⟩
theorem nar_X12_befell : nargs pX12_befell 2 := by unfold nargs; decide +kernel
theorem vok_X12_befell : VOK pX12_befell := ⟨(wsm_8 (i := 50) rfl rfl), (wsm_8 (i := 51) rfl rfl), (wsm_1 (i := 12) rfl rfl), by decide, by decide⟩
def pX12_warmest : AP := (yX12_warmest, cX12_warmest, 4, (some FieldType.int), FRX12, KRX12, LRX12)
theorem okp_X12_warmest : POK pX12_warmest := ⟨(wsm_8 (i := 56) rfl rfl), by decide +kernel, FRX12_ok, KRX12_ok, LRX12_ok⟩
theorem nar_X12_warmest : nargs pX12_warmest 0 := by unfold nargs; decide +kernel
theorem vok_X12_warmest : VOK pX12_warmest := ⟨(wsm_8 (i := 54) rfl rfl), (wsm_8 (i := 55) rfl rfl), (wsm_1 (i := 12) rfl rfl), by decide, by decide⟩
def pX12_leaves : AP := (yX12_leaves, cX12_leaves, 3, (some FieldType.int), FRX12, KRX12, LRX12)
theorem okp_X12_leaves : POK pX12_leaves := ⟨(wsm_8 (i := 60) rfl rfl), by decide +kernel, FRX12_ok, KRX12_ok, LRX12_ok⟩
theorem nar_X12_leaves : nargs pX12_leaves 0 := by unfold nargs; decide +kernel
theorem vok_X12_leaves : VOK pX12_leaves := ⟨(wsm_8 (i := 58) rfl rfl), (wsm_8 (i := 59) rfl rfl), (wsm_1 (i := 12) rfl rfl), by decide, by decide⟩
def pX12_kept : AP := (yX12_kept, cX12_kept, 1, (some FieldType.int), FRX12, KRX12, LRX12)
theorem okp_X12_kept : POK pX12_kept := ⟨(wsm_8 (i := 64) rfl rfl), by decide +kernel, FRX12_ok, KRX12_ok, LRX12_ok⟩
theorem nar_X12_kept : nargs pX12_kept 0 := by unfold nargs; decide +kernel
theorem vok_X12_kept : VOK pX12_kept := ⟨(wsm_8 (i := 62) rfl rfl), (wsm_8 (i := 63) rfl rfl), (wsm_1 (i := 12) rfl rfl), by decide, by decide⟩
def pX12_all : AP := (yX12_all, cX12_all, 1, (some FieldType.int), FRX12, KRX12, LRX12)
theorem okp_X12_all : POK pX12_all := ⟨(wsm_8 (i := 72) rfl rfl), by decide +kernel, FRX12_ok, KRX12_ok, LRX12_ok⟩
theorem nar_X12_all : nargs pX12_all 0 := by unfold nargs; decide +kernel
theorem vok_X12_all : VOK pX12_all := ⟨(wsm_8 (i := 71) rfl rfl), (wsm_0 (i := 106) rfl), (wsm_1 (i := 12) rfl rfl), by decide, by decide⟩
def pX12_heapOf : AP := (yX12_heapOf, cX12_heapOf, 6, (some FieldType.int), FRX12, KRX12, LRX12)
theorem okp_X12_heapOf : POK pX12_heapOf := ⟨(wsm_8 (i := 76) rfl rfl), by decide +kernel, FRX12_ok, KRX12_ok, LRX12_ok⟩
theorem nar_X12_heapOf : nargs pX12_heapOf 2 := by unfold nargs; decide +kernel
theorem vok_X12_heapOf : VOK pX12_heapOf := ⟨(wsm_8 (i := 75) rfl rfl), (wsm_0 (i := 107) rfl), (wsm_1 (i := 12) rfl rfl), by decide, by decide⟩
def pX12_parts : AP := (yX12_parts, cX12_parts, 4, (some FieldType.int), FRX12, KRX12, LRX12)
theorem okp_X12_parts : POK pX12_parts := ⟨(wsm_8 (i := 68) rfl rfl), by decide +kernel, FRX12_ok, KRX12_ok, LRX12_ok⟩
theorem nar_X12_parts : nargs pX12_parts 0 := by unfold nargs; decide +kernel
theorem vok_X12_parts : VOK pX12_parts := ⟨(wsm_8 (i := 66) rfl rfl), (wsm_8 (i := 67) rfl rfl), (wsm_1 (i := 12) rfl rfl), by decide, by decide⟩
def pX12_setAside : AP := (yX12_setAside, cX12_setAside, 2, none, FRX12, KRX12, LRX12)
theorem okp_X12_setAside : POK pX12_setAside := ⟨(wsm_8 (i := 84) rfl rfl), by decide +kernel, FRX12_ok, KRX12_ok, LRX12_ok⟩
theorem nar_X12_setAside : nargs pX12_setAside 0 := by unfold nargs; decide +kernel
theorem vok_X12_setAside : VOK pX12_setAside := ⟨(wsm_8 (i := 83) rfl rfl), (wsm_0 (i := 108) rfl), (wsm_1 (i := 12) rfl rfl), by decide, by decide⟩
def pX12_putBack : AP := (yX12_putBack, cX12_putBack, 2, none, FRX12, KRX12, LRX12)
theorem okp_X12_putBack : POK pX12_putBack := ⟨(wsm_8 (i := 88) rfl rfl), by decide +kernel, FRX12_ok, KRX12_ok, LRX12_ok⟩
theorem nar_X12_putBack : nargs pX12_putBack 0 := by unfold nargs; decide +kernel
theorem vok_X12_putBack : VOK pX12_putBack := ⟨(wsm_8 (i := 87) rfl rfl), (wsm_0 (i := 109) rfl), (wsm_1 (i := 12) rfl rfl), by decide, by decide⟩
def pX12_foretold : AP := (yX12_foretold, cX12_foretold, 5, (some FieldType.int), FRX12, KRX12, LRX12)
theorem okp_X12_foretold : POK pX12_foretold := ⟨(wsm_8 (i := 80) rfl rfl), by decide +kernel, FRX12_ok, KRX12_ok, LRX12_ok⟩
theorem nar_X12_foretold : nargs pX12_foretold 3 := by unfold nargs; decide +kernel
theorem vok_X12_foretold : VOK pX12_foretold := ⟨(wsm_8 (i := 78) rfl rfl), (wsm_8 (i := 79) rfl rfl), (wsm_1 (i := 12) rfl rfl), by decide, by decide⟩
def pX12_out : AP := (yX12_out, cX12_out, 4, (some FieldType.int), FRX12, KRX12, LRX12)
theorem okp_X12_out : POK pX12_out := ⟨(wsm_8 (i := 92) rfl rfl), by decide +kernel, FRX12_ok, KRX12_ok, LRX12_ok⟩
theorem nar_X12_out : nargs pX12_out 1 := by unfold nargs; decide +kernel
theorem vok_X12_out : VOK pX12_out := ⟨(wsm_8 (i := 90) rfl rfl), (wsm_8 (i := 91) rfl rfl), (wsm_1 (i := 12) rfl rfl), by decide, by decide⟩
def pX12_layFars : AP := (yX12_layFars, cX12_layFars, 4, none, FRX12, KRX12, LRX12)
theorem okp_X12_layFars : POK pX12_layFars := ⟨(wsm_8 (i := 100) rfl rfl), by decide +kernel, FRX12_ok, KRX12_ok, LRX12_ok⟩
theorem nar_X12_layFars : nargs pX12_layFars 0 := by unfold nargs; decide +kernel
theorem vok_X12_layFars : VOK pX12_layFars := ⟨(wsm_8 (i := 99) rfl rfl), (wsm_0 (i := 110) rfl), (wsm_1 (i := 12) rfl rfl), by decide, by decide⟩
def pX12_far : AP := (yX12_far, cX12_far, 3, (some FieldType.int), FRX12, KRX12, LRX12)
theorem okp_X12_far : POK pX12_far := ⟨(wsm_8 (i := 96) rfl rfl), by decide +kernel, FRX12_ok, KRX12_ok, LRX12_ok⟩
theorem nar_X12_far : nargs pX12_far 2 := by unfold nargs; decide +kernel
theorem vok_X12_far : VOK pX12_far := ⟨(wsm_8 (i := 94) rfl rfl), (wsm_8 (i := 95) rfl rfl), (wsm_1 (i := 12) rfl rfl), by decide, by decide⟩
def pX12_odd : AP := (yX12_odd, cX12_odd, 3, (some FieldType.int), FRX12, KRX12, LRX12)
theorem okp_X12_odd : POK pX12_odd := ⟨(wsm_8 (i := 109) rfl rfl), by decide +kernel, FRX12_ok, KRX12_ok, LRX12_ok⟩
theorem nar_X12_odd : nargs pX12_odd 0 := by unfold nargs; decide +kernel
theorem vok_X12_odd : VOK pX12_odd := ⟨(wsm_8 (i := 108) rfl rfl), (wsm_0 (i := 111) rfl), (wsm_1 (i := 12) rfl rfl), by decide, by decide⟩
def pX12_isJoined : AP := (yX12_isJoined, cX12_isJoined, 3, (some FieldType.boolean), FRX12, KRX12, LRX12)
theorem okp_X12_isJoined : POK pX12_isJoined := ⟨(wsm_8 (i := 113) rfl rfl), by decide +kernel, FRX12_ok, KRX12_ok, LRX12_ok⟩
theorem nar_X12_isJoined : nargs pX12_isJoined 0 := by unfold nargs; decide +kernel
theorem vok_X12_isJoined : VOK pX12_isJoined := ⟨(wsm_8 (i := 112) rfl rfl), (wsm_0 (i := 112) rfl), (wsm_1 (i := 12) rfl rfl), by decide, by decide⟩
def pX12_lowOf : AP := (yX12_lowOf, cX12_lowOf, 2, (some FieldType.int), FRX12, KRX12, LRX12)
theorem okp_X12_lowOf : POK pX12_lowOf := ⟨(wsm_8 (i := 116) rfl rfl), by decide +kernel, FRX12_ok, KRX12_ok, LRX12_ok⟩
theorem nar_X12_lowOf : nargs pX12_lowOf 1 := by unfold nargs; decide +kernel
theorem tok_X12_lowOf : TOK pX12_lowOf := ⟨(wsm_8 (i := 115) rfl rfl), (wsm_1 (i := 12) rfl rfl), by decide, by decide⟩
def pX12_layPairs : AP := (yX12_layPairs, cX12_layPairs, 4, none, FRX12, KRX12, LRX12)
theorem okp_X12_layPairs : POK pX12_layPairs := ⟨(wsm_8 (i := 120) rfl rfl), by decide +kernel, FRX12_ok, KRX12_ok, LRX12_ok⟩
theorem nar_X12_layPairs : nargs pX12_layPairs 0 := by unfold nargs; decide +kernel
theorem vok_X12_layPairs : VOK pX12_layPairs := ⟨(wsm_8 (i := 119) rfl rfl), (wsm_0 (i := 113) rfl), (wsm_1 (i := 12) rfl rfl), by decide, by decide⟩
def pX12_least : AP := (yX12_least, cX12_least, 2, (some FieldType.int), FRX12, KRX12, LRX12)
theorem okp_X12_least : POK pX12_least := ⟨(wsm_8 (i := 123) rfl rfl), by decide +kernel, FRX12_ok, KRX12_ok, LRX12_ok⟩
theorem nar_X12_least : nargs pX12_least 2 := by unfold nargs; decide +kernel
theorem tok_X12_least : TOK pX12_least := ⟨(wsm_8 (i := 122) rfl rfl), (wsm_1 (i := 12) rfl rfl), by decide, by decide⟩
def pX12_round : AP := (yX12_round, cX12_round, 5, (some FieldType.int), FRX12, KRX12, LRX12)
theorem okp_X12_round : POK pX12_round := ⟨(wsm_8 (i := 105) rfl rfl), by decide +kernel, FRX12_ok, KRX12_ok, LRX12_ok⟩
theorem nar_X12_round : nargs pX12_round 1 := by unfold nargs; decide +kernel
theorem vok_X12_round : VOK pX12_round := ⟨(wsm_8 (i := 103) rfl rfl), (wsm_8 (i := 104) rfl rfl), (wsm_1 (i := 12) rfl rfl), by decide, by decide⟩
def pX12_again : AP := (yX12_again, cX12_again, 5, (some FieldType.int), FRX12, KRX12, LRX12)
theorem okp_X12_again : POK pX12_again := ⟨(wsm_8 (i := 127) rfl rfl), by decide +kernel, FRX12_ok, KRX12_ok, LRX12_ok⟩
theorem nar_X12_again : nargs pX12_again 1 := by unfold nargs; decide +kernel
theorem vok_X12_again : VOK pX12_again := ⟨(wsm_8 (i := 125) rfl rfl), (wsm_8 (i := 126) rfl rfl), (wsm_1 (i := 12) rfl rfl), by decide, by decide⟩
def pX12_warmth : AP := (yX12_warmth, cX12_warmth, 3, (some FieldType.boolean), FRX12, KRX12, LRX12)
theorem okp_X12_warmth : POK pX12_warmth := ⟨(wsm_8 (i := 131) rfl rfl), by decide +kernel, FRX12_ok, KRX12_ok, LRX12_ok⟩
theorem nar_X12_warmth : nargs pX12_warmth 2 := by unfold nargs; decide +kernel
theorem vok_X12_warmth : VOK pX12_warmth := ⟨(wsm_8 (i := 129) rfl rfl), (wsm_8 (i := 130) rfl rfl), (wsm_1 (i := 12) rfl rfl), by decide, by decide⟩
def pX12_ring : AP := (yX12_ring, cX12_ring, 9, (some FieldType.int), FRX12, KRX12, LRX12)
theorem okp_X12_ring : POK pX12_ring := ⟨(wsm_8 (i := 135) rfl rfl), by decide +kernel, FRX12_ok, KRX12_ok, LRX12_ok⟩
theorem nar_X12_ring : nargs pX12_ring 1 := by unfold nargs; decide +kernel
theorem vok_X12_ring : VOK pX12_ring := ⟨(wsm_8 (i := 133) rfl rfl), (wsm_8 (i := 134) rfl rfl), (wsm_1 (i := 12) rfl rfl), by decide, by decide⟩
def pX12_givenOf : AP := (yX12_givenOf, cX12_givenOf, 7, (some FieldType.int), FRX12, KRX12, LRX12)
theorem okp_X12_givenOf : POK pX12_givenOf := ⟨(wsm_8 (i := 143) rfl rfl), by decide +kernel, FRX12_ok, KRX12_ok, LRX12_ok⟩
theorem nar_X12_givenOf : nargs pX12_givenOf 1 := by unfold nargs; decide +kernel
theorem vok_X12_givenOf : VOK pX12_givenOf := ⟨(wsm_8 (i := 142) rfl rfl), (wsm_0 (i := 114) rfl), (wsm_1 (i := 12) rfl rfl), by decide, by decide⟩
def pX12_giverOf : AP := (yX12_giverOf, cX12_giverOf, 5, (some FieldType.int), FRX12, KRX12, LRX12)
theorem okp_X12_giverOf : POK pX12_giverOf := ⟨(wsm_8 (i := 147) rfl rfl), by decide +kernel, FRX12_ok, KRX12_ok, LRX12_ok⟩
theorem nar_X12_giverOf : nargs pX12_giverOf 3 := by unfold nargs; decide +kernel
theorem vok_X12_giverOf : VOK pX12_giverOf := ⟨(wsm_8 (i := 146) rfl rfl), (wsm_0 (i := 115) rfl), (wsm_1 (i := 12) rfl rfl), by decide, by decide⟩
def pX12_dawn : AP := (yX12_dawn, cX12_dawn, 7, (some FieldType.int), FRX12, KRX12, LRX12)
theorem okp_X12_dawn : POK pX12_dawn := ⟨(wsm_8 (i := 139) rfl rfl), by decide +kernel, FRX12_ok, KRX12_ok, LRX12_ok⟩
theorem nar_X12_dawn : nargs pX12_dawn 2 := by unfold nargs; decide +kernel
theorem vok_X12_dawn : VOK pX12_dawn := ⟨(wsm_8 (i := 137) rfl rfl), (wsm_8 (i := 138) rfl rfl), (wsm_1 (i := 12) rfl rfl), by decide, by decide⟩
def pX12_chain : AP := (yX12_chain, cX12_chain, 6, (some FieldType.int), FRX12, KRX12, LRX12)
theorem okp_X12_chain : POK pX12_chain := ⟨(wsm_8 (i := 151) rfl rfl), by decide +kernel, FRX12_ok, KRX12_ok, LRX12_ok⟩
theorem nar_X12_chain : nargs pX12_chain 1 := by unfold nargs; decide +kernel
theorem vok_X12_chain : VOK pX12_chain := ⟨(wsm_8 (i := 149) rfl rfl), (wsm_8 (i := 150) rfl rfl), (wsm_1 (i := 12) rfl rfl), by decide, by decide⟩
def pX12_largest : AP := (yX12_largest, cX12_largest, 4, (some FieldType.int), FRX12, KRX12, LRX12)
theorem okp_X12_largest : POK pX12_largest := ⟨(wsm_8 (i := 159) rfl rfl), by decide +kernel, FRX12_ok, KRX12_ok, LRX12_ok⟩
theorem nar_X12_largest : nargs pX12_largest 1 := by unfold nargs; decide +kernel
theorem vok_X12_largest : VOK pX12_largest := ⟨(wsm_8 (i := 158) rfl rfl), (wsm_0 (i := 116) rfl), (wsm_1 (i := 12) rfl rfl), by decide, by decide⟩
def pX12_stone : AP := (yX12_stone, cX12_stone, 7, (some FieldType.int), FRX12, KRX12, LRX12)
theorem okp_X12_stone : POK pX12_stone := ⟨(wsm_8 (i := 155) rfl rfl), by decide +kernel, FRX12_ok, KRX12_ok, LRX12_ok⟩
theorem nar_X12_stone : nargs pX12_stone 2 := by unfold nargs; decide +kernel
theorem vok_X12_stone : VOK pX12_stone := ⟨(wsm_8 (i := 153) rfl rfl), (wsm_8 (i := 154) rfl rfl), (wsm_1 (i := 12) rfl rfl), by decide, by decide⟩
def pX12_seen : AP := (yX12_seen, cX12_seen, 5, (some FieldType.int), FRX12, KRX12, LRX12)
theorem okp_X12_seen : POK pX12_seen := ⟨(wsm_8 (i := 163) rfl rfl), by decide +kernel, FRX12_ok, KRX12_ok, LRX12_ok⟩
theorem nar_X12_seen : nargs pX12_seen 3 := by unfold nargs; decide +kernel
theorem vok_X12_seen : VOK pX12_seen := ⟨(wsm_8 (i := 161) rfl rfl), (wsm_8 (i := 162) rfl rfl), (wsm_1 (i := 12) rfl rfl), by decide, by decide⟩
def pX12_layHops : AP := (yX12_layHops, cX12_layHops, 6, none, FRX12, KRX12, LRX12)
theorem okp_X12_layHops : POK pX12_layHops := ⟨(wsm_8 (i := 171) rfl rfl), by decide +kernel, FRX12_ok, KRX12_ok, LRX12_ok⟩
theorem nar_X12_layHops : nargs pX12_layHops 0 := by unfold nargs; decide +kernel
theorem vok_X12_layHops : VOK pX12_layHops := ⟨(wsm_8 (i := 170) rfl rfl), (wsm_0 (i := 117) rfl), (wsm_1 (i := 12) rfl rfl), by decide, by decide⟩
def pX12_isBegun : AP := (yX12_isBegun, cX12_isBegun, 5, (some FieldType.boolean), FRX12, KRX12, LRX12)
theorem okp_X12_isBegun : POK pX12_isBegun := ⟨(wsm_8 (i := 179) rfl rfl), by decide +kernel, FRX12_ok, KRX12_ok, LRX12_ok⟩
theorem nar_X12_isBegun : nargs pX12_isBegun 2 := by unfold nargs; decide +kernel
theorem vok_X12_isBegun : VOK pX12_isBegun := ⟨(wsm_8 (i := 178) rfl rfl), (wsm_0 (i := 119) rfl), (wsm_1 (i := 12) rfl rfl), by decide, by decide⟩
def pX12_hoursOf : AP := (yX12_hoursOf, cX12_hoursOf, 4, (some FieldType.int), FRX12, KRX12, LRX12)
theorem okp_X12_hoursOf : POK pX12_hoursOf := ⟨(wsm_8 (i := 175) rfl rfl), by decide +kernel, FRX12_ok, KRX12_ok, LRX12_ok⟩
theorem nar_X12_hoursOf : nargs pX12_hoursOf 1 := by unfold nargs; decide +kernel
theorem vok_X12_hoursOf : VOK pX12_hoursOf := ⟨(wsm_8 (i := 174) rfl rfl), (wsm_0 (i := 118) rfl), (wsm_1 (i := 12) rfl rfl), by decide, by decide⟩
def pX12_began : AP := (yX12_began, cX12_began, 4, (some FieldType.int), FRX12, KRX12, LRX12)
theorem okp_X12_began : POK pX12_began := ⟨(wsm_8 (i := 167) rfl rfl), by decide +kernel, FRX12_ok, KRX12_ok, LRX12_ok⟩
theorem nar_X12_began : nargs pX12_began 1 := by unfold nargs; decide +kernel
theorem vok_X12_began : VOK pX12_began := ⟨(wsm_8 (i := 165) rfl rfl), (wsm_8 (i := 166) rfl rfl), (wsm_1 (i := 12) rfl rfl), by decide, by decide⟩
def pX12_answers : AP := (yX12_answers, cX12_answers, 6, (some FieldType.int), FRX12, KRX12, LRX12)
theorem okp_X12_answers : POK pX12_answers := ⟨(wsm_8 (i := 187) rfl rfl), by decide +kernel, FRX12_ok, KRX12_ok, LRX12_ok⟩
theorem nar_X12_answers : nargs pX12_answers 1 := by unfold nargs; decide +kernel
theorem vok_X12_answers : VOK pX12_answers := ⟨(wsm_8 (i := 186) rfl rfl), (wsm_0 (i := 120) rfl), (wsm_1 (i := 12) rfl rfl), by decide, by decide⟩
def pX12_whom : AP := (yX12_whom, cX12_whom, 5, (some FieldType.int), FRX12, KRX12, LRX12)
theorem okp_X12_whom : POK pX12_whom := ⟨(wsm_8 (i := 183) rfl rfl), by decide +kernel, FRX12_ok, KRX12_ok, LRX12_ok⟩
theorem nar_X12_whom : nargs pX12_whom 0 := by unfold nargs; decide +kernel
theorem vok_X12_whom : VOK pX12_whom := ⟨(wsm_8 (i := 181) rfl rfl), (wsm_8 (i := 182) rfl rfl), (wsm_1 (i := 12) rfl rfl), by decide, by decide⟩
def pX12_bid : AP := (yX12_bid, cX12_bid, 3, (some FieldType.boolean), FRX12, KRX12, LRX12)
theorem okp_X12_bid : POK pX12_bid := ⟨(wsm_8 (i := 191) rfl rfl), by decide +kernel, FRX12_ok, KRX12_ok, LRX12_ok⟩
theorem nar_X12_bid : nargs pX12_bid 2 := by unfold nargs; decide +kernel
theorem vok_X12_bid : VOK pX12_bid := ⟨(wsm_8 (i := 189) rfl rfl), (wsm_8 (i := 190) rfl rfl), (wsm_1 (i := 12) rfl rfl), by decide, by decide⟩
def pX12_ahead : AP := (yX12_ahead, cX12_ahead, 4, (some FieldType.int), FRX12, KRX12, LRX12)
theorem okp_X12_ahead : POK pX12_ahead := ⟨(wsm_8 (i := 199) rfl rfl), by decide +kernel, FRX12_ok, KRX12_ok, LRX12_ok⟩
theorem nar_X12_ahead : nargs pX12_ahead 1 := by unfold nargs; decide +kernel
theorem vok_X12_ahead : VOK pX12_ahead := ⟨(wsm_8 (i := 198) rfl rfl), (wsm_0 (i := 121) rfl), (wsm_1 (i := 12) rfl rfl), by decide, by decide⟩
def pX12_leave : AP := (yX12_leave, cX12_leave, 6, (some FieldType.int), FRX12, KRX12, LRX12)
theorem okp_X12_leave : POK pX12_leave := ⟨(wsm_8 (i := 195) rfl rfl), by decide +kernel, FRX12_ok, KRX12_ok, LRX12_ok⟩
theorem nar_X12_leave : nargs pX12_leave 2 := by unfold nargs; decide +kernel
theorem vok_X12_leave : VOK pX12_leave := ⟨(wsm_8 (i := 193) rfl rfl), (wsm_8 (i := 194) rfl rfl), (wsm_1 (i := 12) rfl rfl), by decide, by decide⟩
def pX12_cooled : AP := (yX12_cooled, cX12_cooled, 3, (some FieldType.int), FRX12, KRX12, LRX12)
theorem okp_X12_cooled : POK pX12_cooled := ⟨(wsm_8 (i := 203) rfl rfl), by decide +kernel, FRX12_ok, KRX12_ok, LRX12_ok⟩
theorem nar_X12_cooled : nargs pX12_cooled 2 := by unfold nargs; decide +kernel
theorem vok_X12_cooled : VOK pX12_cooled := ⟨(wsm_8 (i := 201) rfl rfl), (wsm_8 (i := 202) rfl rfl), (wsm_1 (i := 12) rfl rfl), by decide, by decide⟩
def pX12_whose : AP := (yX12_whose, cX12_whose, 5, (some FieldType.int), FRX12, KRX12, LRX12)
theorem okp_X12_whose : POK pX12_whose := ⟨(wsm_8 (i := 207) rfl rfl), by decide +kernel, FRX12_ok, KRX12_ok, LRX12_ok⟩
theorem nar_X12_whose : nargs pX12_whose 0 := by unfold nargs; decide +kernel
theorem vok_X12_whose : VOK pX12_whose := ⟨(wsm_8 (i := 205) rfl rfl), (wsm_8 (i := 206) rfl rfl), (wsm_1 (i := 12) rfl rfl), by decide, by decide⟩
def pX12_image : AP := (yX12_image, cX12_image, 1, (some FieldType.int), FRX12, KRX12, LRX12)
theorem okp_X12_image : POK pX12_image := ⟨(wsm_8 (i := 211) rfl rfl), by decide +kernel, FRX12_ok, KRX12_ok, LRX12_ok⟩
theorem nar_X12_image : nargs pX12_image 0 := by unfold nargs; decide +kernel
theorem vok_X12_image : VOK pX12_image := ⟨(wsm_8 (i := 209) rfl rfl), (wsm_8 (i := 210) rfl rfl), (wsm_1 (i := 12) rfl rfl), by decide, by decide⟩
def pX12_back : AP := (yX12_back, cX12_back, 1, (some FieldType.int), FRX12, KRX12, LRX12)
theorem okp_X12_back : POK pX12_back := ⟨(wsm_8 (i := 215) rfl rfl), by decide +kernel, FRX12_ok, KRX12_ok, LRX12_ok⟩
theorem nar_X12_back : nargs pX12_back 0 := by unfold nargs; decide +kernel
theorem vok_X12_back : VOK pX12_back := ⟨(wsm_8 (i := 213) rfl rfl), (wsm_8 (i := 214) rfl rfl), (wsm_1 (i := 12) rfl rfl), by decide, by decide⟩
def pX12_about : AP := (yX12_about, cX12_about, 2, (some FieldType.int), FRX12, KRX12, LRX12)
theorem okp_X12_about : POK pX12_about := ⟨(wsm_8 (i := 219) rfl rfl), by decide +kernel, FRX12_ok, KRX12_ok, LRX12_ok⟩
theorem nar_X12_about : nargs pX12_about 1 := by unfold nargs; decide +kernel
theorem vok_X12_about : VOK pX12_about := ⟨(wsm_8 (i := 217) rfl rfl), (wsm_8 (i := 218) rfl rfl), (wsm_1 (i := 12) rfl rfl), by decide, by decide⟩
def pX0_settle : AP := (yX0_settle, cX0_settle, 7, none, FRX0, KRX0, LRX0)
theorem okp_X0_settle : POK pX0_settle := ⟨(wsm_5 (i := 113) rfl rfl), by decide +kernel, FRX0_ok, KRX0_ok, LRX0_ok⟩
theorem nar_X0_settle : nargs pX0_settle 3 := by unfold nargs; decide +kernel
theorem vok_X0_settle : VOK pX0_settle := ⟨(wsm_5 (i := 111) rfl rfl), (wsm_5 (i := 112) rfl rfl), (wsm_1 (i := 10) rfl rfl), by decide, by decide⟩
def pX0_choose : AP := (yX0_choose, cX0_choose, 3, none, FRX0, KRX0, LRX0)
theorem okp_X0_choose : POK pX0_choose := ⟨(wsm_5 (i := 119) rfl rfl), by decide +kernel, FRX0_ok, KRX0_ok, LRX0_ok⟩
theorem nar_X0_choose : nargs pX0_choose 2 := by unfold nargs; decide +kernel
theorem vok_X0_choose : VOK pX0_choose := ⟨(wsm_5 (i := 118) rfl rfl), (wsm_0 (i := 36) rfl), (wsm_1 (i := 10) rfl rfl), by decide, by decide⟩
def pX0_chooseFor : AP := (yX0_chooseFor, cX0_chooseFor, 4, none, FRX0, KRX0, LRX0)
theorem okp_X0_chooseFor : POK pX0_chooseFor := ⟨(wsm_5 (i := 124) rfl rfl), by decide +kernel, FRX0_ok, KRX0_ok, LRX0_ok⟩
theorem nar_X0_chooseFor : nargs pX0_chooseFor 2 := by unfold nargs; decide +kernel
theorem vok_X0_chooseFor : VOK pX0_chooseFor := ⟨(wsm_5 (i := 123) rfl rfl), (wsm_0 (i := 37) rfl), (wsm_1 (i := 10) rfl rfl), by decide, by decide⟩
def pX1_pass : AP := (yX1_pass, cX1_pass, 7, (some FieldType.int), FRX1, KRX1, LRX1)
theorem okp_X1_pass : POK pX1_pass := ⟨(wsm_4 (i := 149) rfl rfl), by decide +kernel, FRX1_ok, KRX1_ok, LRX1_ok⟩
theorem nar_X1_pass : nargs pX1_pass 3 := by unfold nargs; decide +kernel
theorem vok_X1_pass : VOK pX1_pass := ⟨(wsm_4 (i := 147) rfl rfl), (wsm_4 (i := 148) rfl rfl), (wsm_1 (i := 6) rfl rfl), by decide, by decide⟩
def pX1_catches : AP := (yX1_catches, cX1_catches, 6, (some FieldType.boolean), FRX1, KRX1, LRX1)
theorem okp_X1_catches : POK pX1_catches := ⟨(wsm_4 (i := 162) rfl rfl), by decide +kernel, FRX1_ok, KRX1_ok, LRX1_ok⟩
theorem nar_X1_catches : nargs pX1_catches 4 := by unfold nargs; decide +kernel
theorem vok_X1_catches : VOK pX1_catches := ⟨(wsm_4 (i := 161) rfl rfl), (wsm_0 (i := 28) rfl), (wsm_1 (i := 6) rfl rfl), by decide, by decide⟩
def pX1_visit : AP := (yX1_visit, cX1_visit, 7, (some FieldType.int), FRX1, KRX1, LRX1)
theorem okp_X1_visit : POK pX1_visit := ⟨(wsm_4 (i := 63) rfl rfl), by decide +kernel, FRX1_ok, KRX1_ok, LRX1_ok⟩
theorem nar_X1_visit : nargs pX1_visit 4 := by unfold nargs; decide +kernel
theorem vok_X1_visit : VOK pX1_visit := ⟨(wsm_4 (i := 61) rfl rfl), (wsm_4 (i := 62) rfl rfl), (wsm_1 (i := 6) rfl rfl), by decide, by decide⟩
def pX1_rateToday : AP := (yX1_rateToday, cX1_rateToday, 6, (some FieldType.int), FRX1, KRX1, LRX1)
theorem okp_X1_rateToday : POK pX1_rateToday := ⟨(wsm_4 (i := 225) rfl rfl), by decide +kernel, FRX1_ok, KRX1_ok, LRX1_ok⟩
theorem nar_X1_rateToday : nargs pX1_rateToday 5 := by unfold nargs; decide +kernel
theorem vok_X1_rateToday : VOK pX1_rateToday := ⟨(wsm_4 (i := 223) rfl rfl), (wsm_4 (i := 224) rfl rfl), (wsm_1 (i := 6) rfl rfl), by decide, by decide⟩
def pX1_rate : AP := (yX1_rate, cX1_rate, 8, (some FieldType.int), FRX1, KRX1, LRX1)
theorem okp_X1_rate : POK pX1_rate := ⟨(wsm_4 (i := 85) rfl rfl), by decide +kernel, FRX1_ok, KRX1_ok, LRX1_ok⟩
theorem nar_X1_rate : nargs pX1_rate 5 := by unfold nargs; decide +kernel
theorem vok_X1_rate : VOK pX1_rate := ⟨(wsm_4 (i := 84) rfl rfl), (wsm_0 (i := 23) rfl), (wsm_1 (i := 6) rfl rfl), by decide, by decide⟩
def pX1_without : AP := (yX1_without, cX1_without, 5, (some FieldType.int), FRX1, KRX1, LRX1)
theorem okp_X1_without : POK pX1_without := ⟨(wsm_4 (i := 92) rfl rfl), by decide +kernel, FRX1_ok, KRX1_ok, LRX1_ok⟩
theorem nar_X1_without : nargs pX1_without 4 := by unfold nargs; decide +kernel
theorem tok_X1_without : TOK pX1_without := ⟨(wsm_4 (i := 91) rfl rfl), (wsm_1 (i := 6) rfl rfl), by decide, by decide⟩
def pX1_value : AP := (yX1_value, cX1_value, 12, (some FieldType.int), FRX1, KRX1, LRX1)
theorem okp_X1_value : POK pX1_value := ⟨(wsm_4 (i := 96) rfl rfl), by decide +kernel, FRX1_ok, KRX1_ok, LRX1_ok⟩
theorem nar_X1_value : nargs pX1_value 5 := by unfold nargs; decide +kernel
theorem vok_X1_value : VOK pX1_value := ⟨(wsm_4 (i := 95) rfl rfl), (wsm_0 (i := 24) rfl), (wsm_1 (i := 6) rfl rfl), by decide, by decide⟩
def pX1_push : AP := (yX1_push, cX1_push, 2, none, FRX1, KRX1, LRX1)
theorem okp_X1_push : POK pX1_push := ⟨(wsm_4 (i := 112) rfl rfl), by decide +kernel, FRX1_ok, KRX1_ok, LRX1_ok⟩
theorem nar_X1_push : nargs pX1_push 1 := by unfold nargs; decide +kernel
theorem vok_X1_push : VOK pX1_push := ⟨(wsm_4 (i := 111) rfl rfl), (wsm_0 (i := 25) rfl), (wsm_1 (i := 6) rfl rfl), by decide, by decide⟩
def pX1_pop : AP := (yX1_pop, cX1_pop, 1, (some FieldType.int), FRX1, KRX1, LRX1)
theorem okp_X1_pop : POK pX1_pop := ⟨(wsm_4 (i := 116) rfl rfl), by decide +kernel, FRX1_ok, KRX1_ok, LRX1_ok⟩
theorem nar_X1_pop : nargs pX1_pop 0 := by unfold nargs; decide +kernel
theorem vok_X1_pop : VOK pX1_pop := ⟨(wsm_4 (i := 115) rfl rfl), (wsm_0 (i := 26) rfl), (wsm_1 (i := 6) rfl rfl), by decide, by decide⟩
def pX1_named : AP := (yX1_named, cX1_named, 4, (some FieldType.int), FRX1, KRX1, LRX1)
theorem okp_X1_named : POK pX1_named := ⟨(wsm_4 (i := 119) rfl rfl), by decide +kernel, FRX1_ok, KRX1_ok, LRX1_ok⟩
theorem nar_X1_named : nargs pX1_named 4 := by unfold nargs; decide +kernel
theorem tok_X1_named : TOK pX1_named := ⟨(wsm_4 (i := 118) rfl rfl), (wsm_1 (i := 6) rfl rfl), by decide, by decide⟩
def pX1_ofOne : AP := (yX1_ofOne, cX1_ofOne, 3, (some FieldType.int), FRX1, KRX1, LRX1)
theorem okp_X1_ofOne : POK pX1_ofOne := ⟨(wsm_4 (i := 122) rfl rfl), by decide +kernel, FRX1_ok, KRX1_ok, LRX1_ok⟩
theorem nar_X1_ofOne : nargs pX1_ofOne 3 := by unfold nargs; decide +kernel
theorem tok_X1_ofOne : TOK pX1_ofOne := ⟨(wsm_4 (i := 121) rfl rfl), (wsm_1 (i := 6) rfl rfl), by decide, by decide⟩
def pX1_ofTwo : AP := (yX1_ofTwo, cX1_ofTwo, 5, (some FieldType.int), FRX1, KRX1, LRX1)
theorem okp_X1_ofTwo : POK pX1_ofTwo := ⟨(wsm_4 (i := 126) rfl rfl), by decide +kernel, FRX1_ok, KRX1_ok, LRX1_ok⟩
theorem nar_X1_ofTwo : nargs pX1_ofTwo 3 := by unfold nargs; decide +kernel
theorem tok_X1_ofTwo : TOK pX1_ofTwo := ⟨(wsm_4 (i := 125) rfl rfl), (wsm_1 (i := 6) rfl rfl), by decide, by decide⟩
def pX2_hoursFrom : AP := (yX2_hoursFrom, cX2_hoursFrom, 4, (some FieldType.int), FRX2, KRX2, LRX2)
theorem okp_X2_hoursFrom : POK pX2_hoursFrom := ⟨(wsm_5 (i := 160) rfl rfl), by decide +kernel, FRX2_ok, KRX2_ok, LRX2_ok⟩
theorem nar_X2_hoursFrom : nargs pX2_hoursFrom 3 := by unfold nargs; decide +kernel
theorem vok_X2_hoursFrom : VOK pX2_hoursFrom := ⟨(wsm_5 (i := 158) rfl rfl), (wsm_5 (i := 159) rfl rfl), (wsm_1 (i := 11) rfl rfl), by decide, by decide⟩
def pX2_narrow : AP := (yX2_narrow, cX2_narrow, 7, none, FRX2, KRX2, LRX2)
theorem okp_X2_narrow : POK pX2_narrow := ⟨(wsm_5 (i := 164) rfl rfl), by decide +kernel, FRX2_ok, KRX2_ok, LRX2_ok⟩
theorem nar_X2_narrow : nargs pX2_narrow 3 := by unfold nargs; decide +kernel
theorem vok_X2_narrow : VOK pX2_narrow := ⟨(wsm_5 (i := 163) rfl rfl), (wsm_0 (i := 39) rfl), (wsm_1 (i := 11) rfl rfl), by decide, by decide⟩
def pX2_gather : AP := (yX2_gather, cX2_gather, 5, none, FRX2, KRX2, LRX2)
theorem okp_X2_gather : POK pX2_gather := ⟨(wsm_5 (i := 175) rfl rfl), by decide +kernel, FRX2_ok, KRX2_ok, LRX2_ok⟩
theorem nar_X2_gather : nargs pX2_gather 2 := by unfold nargs; decide +kernel
theorem vok_X2_gather : VOK pX2_gather := ⟨(wsm_5 (i := 173) rfl rfl), (wsm_5 (i := 174) rfl rfl), (wsm_1 (i := 11) rfl rfl), by decide, by decide⟩
def pX2_markAll : AP := (yX2_markAll, cX2_markAll, 8, none, FRX2, KRX2, LRX2)
theorem okp_X2_markAll : POK pX2_markAll := ⟨(wsm_5 (i := 179) rfl rfl), by decide +kernel, FRX2_ok, KRX2_ok, LRX2_ok⟩
theorem nar_X2_markAll : nargs pX2_markAll 4 := by unfold nargs; decide +kernel
theorem vok_X2_markAll : VOK pX2_markAll := ⟨(wsm_5 (i := 178) rfl rfl), (wsm_0 (i := 40) rfl), (wsm_1 (i := 11) rfl rfl), by decide, by decide⟩
def pX2_unlike : AP := (yX2_unlike, cX2_unlike, 2, (some FieldType.int), FRX2, KRX2, LRX2)
theorem okp_X2_unlike : POK pX2_unlike := ⟨(wsm_5 (i := 184) rfl rfl), by decide +kernel, FRX2_ok, KRX2_ok, LRX2_ok⟩
theorem nar_X2_unlike : nargs pX2_unlike 1 := by unfold nargs; decide +kernel
theorem vok_X2_unlike : VOK pX2_unlike := ⟨(wsm_5 (i := 182) rfl rfl), (wsm_5 (i := 183) rfl rfl), (wsm_1 (i := 11) rfl rfl), by decide, by decide⟩
def pX3_begin : AP := (yX3_begin, cX3_begin, 2, none, FRX3, KRX3, LRX3)
theorem okp_X3_begin : POK pX3_begin := ⟨(wsm_2 (i := 183) rfl rfl), by decide +kernel, FRX3_ok, KRX3_ok, LRX3_ok⟩
theorem nar_X3_begin : nargs pX3_begin 0 := by unfold nargs; decide +kernel
theorem vok_X3_begin : VOK pX3_begin := ⟨(wsm_2 (i := 182) rfl rfl), (wsm_0 (i := 1) rfl), (wsm_1 (i := 7) rfl rfl), by decide, by decide⟩
def pX3_fail : AP := (yX3_fail, cX3_fail, 2, none, FRX3, KRX3, LRX3)
theorem okp_X3_fail : POK pX3_fail := ⟨(wsm_3 (i := 100) rfl rfl), by decide +kernel, FRX3_ok, KRX3_ok, LRX3_ok⟩
theorem nar_X3_fail : nargs pX3_fail 1 := by unfold nargs; decide +kernel
theorem vok_X3_fail : VOK pX3_fail := ⟨(wsm_3 (i := 99) rfl rfl), (wsm_0 (i := 5) rfl), (wsm_1 (i := 7) rfl rfl), by decide, by decide⟩
def pX3_take : AP := (yX3_take, cX3_take, 2, none, FRX3, KRX3, LRX3)
theorem okp_X3_take : POK pX3_take := ⟨(wsm_3 (i := 145) rfl rfl), by decide +kernel, FRX3_ok, KRX3_ok, LRX3_ok⟩
theorem nar_X3_take : nargs pX3_take 1 := by unfold nargs; decide +kernel
theorem vok_X3_take : VOK pX3_take := ⟨(wsm_3 (i := 144) rfl rfl), (wsm_0 (i := 13) rfl), (wsm_1 (i := 7) rfl rfl), by decide, by decide⟩
def pX3_takeNumber : AP := (yX3_takeNumber, cX3_takeNumber, 4, (some FieldType.int), FRX3, KRX3, LRX3)
theorem okp_X3_takeNumber : POK pX3_takeNumber := ⟨(wsm_3 (i := 124) rfl rfl), by decide +kernel, FRX3_ok, KRX3_ok, LRX3_ok⟩
theorem nar_X3_takeNumber : nargs pX3_takeNumber 2 := by unfold nargs; decide +kernel
theorem vok_X3_takeNumber : VOK pX3_takeNumber := ⟨(wsm_3 (i := 123) rfl rfl), (wsm_0 (i := 9) rfl), (wsm_1 (i := 7) rfl rfl), by decide, by decide⟩
def pX3_clause : AP := (yX3_clause, cX3_clause, 2, none, FRX3, KRX3, LRX3)
theorem okp_X3_clause : POK pX3_clause := ⟨(wsm_3 (i := 96) rfl rfl), by decide +kernel, FRX3_ok, KRX3_ok, LRX3_ok⟩
theorem nar_X3_clause : nargs pX3_clause 0 := by unfold nargs; decide +kernel
theorem vok_X3_clause : VOK pX3_clause := ⟨(wsm_3 (i := 95) rfl rfl), (wsm_0 (i := 4) rfl), (wsm_1 (i := 7) rfl rfl), by decide, by decide⟩
def pX3_addClause : AP := (yX3_addClause, cX3_addClause, 6, none, FRX3, KRX3, LRX3)
theorem okp_X3_addClause : POK pX3_addClause := ⟨(wsm_3 (i := 173) rfl rfl), by decide +kernel, FRX3_ok, KRX3_ok, LRX3_ok⟩
theorem nar_X3_addClause : nargs pX3_addClause 4 := by unfold nargs; decide +kernel
theorem vok_X3_addClause : VOK pX3_addClause := ⟨(wsm_3 (i := 172) rfl rfl), (wsm_0 (i := 20) rfl), (wsm_1 (i := 7) rfl rfl), by decide, by decide⟩
def pX3_readAct : AP := (yX3_readAct, cX3_readAct, 5, none, FRX3, KRX3, LRX3)
theorem okp_X3_readAct : POK pX3_readAct := ⟨(wsm_3 (i := 177) rfl rfl), by decide +kernel, FRX3_ok, KRX3_ok, LRX3_ok⟩
theorem nar_X3_readAct : nargs pX3_readAct 1 := by unfold nargs; decide +kernel
theorem vok_X3_readAct : VOK pX3_readAct := ⟨(wsm_3 (i := 176) rfl rfl), (wsm_0 (i := 21) rfl), (wsm_1 (i := 7) rfl rfl), by decide, by decide⟩
def pX3_emit : AP := (yX3_emit, cX3_emit, 3, (some FieldType.int), FRX3, KRX3, LRX3)
theorem okp_X3_emit : POK pX3_emit := ⟨(wsm_3 (i := 133) rfl rfl), by decide +kernel, FRX3_ok, KRX3_ok, LRX3_ok⟩
theorem nar_X3_emit : nargs pX3_emit 2 := by unfold nargs; decide +kernel
theorem vok_X3_emit : VOK pX3_emit := ⟨(wsm_3 (i := 132) rfl rfl), (wsm_0 (i := 10) rfl), (wsm_1 (i := 7) rfl rfl), by decide, by decide⟩
def pX3_leadHere : AP := (yX3_leadHere, cX3_leadHere, 2, none, FRX3, KRX3, LRX3)
theorem okp_X3_leadHere : POK pX3_leadHere := ⟨(wsm_3 (i := 169) rfl rfl), by decide +kernel, FRX3_ok, KRX3_ok, LRX3_ok⟩
theorem nar_X3_leadHere : nargs pX3_leadHere 1 := by unfold nargs; decide +kernel
theorem vok_X3_leadHere : VOK pX3_leadHere := ⟨(wsm_3 (i := 168) rfl rfl), (wsm_0 (i := 19) rfl), (wsm_1 (i := 7) rfl rfl), by decide, by decide⟩
def pX3_sum : AP := (yX3_sum, cX3_sum, 4, none, FRX3, KRX3, LRX3)
theorem okp_X3_sum : POK pX3_sum := ⟨(wsm_3 (i := 112) rfl rfl), by decide +kernel, FRX3_ok, KRX3_ok, LRX3_ok⟩
theorem nar_X3_sum : nargs pX3_sum 1 := by unfold nargs; decide +kernel
theorem vok_X3_sum : VOK pX3_sum := ⟨(wsm_3 (i := 111) rfl rfl), (wsm_0 (i := 6) rfl), (wsm_1 (i := 7) rfl rfl), by decide, by decide⟩
def pX3_product : AP := (yX3_product, cX3_product, 4, none, FRX3, KRX3, LRX3)
theorem okp_X3_product : POK pX3_product := ⟨(wsm_3 (i := 116) rfl rfl), by decide +kernel, FRX3_ok, KRX3_ok, LRX3_ok⟩
theorem nar_X3_product : nargs pX3_product 1 := by unfold nargs; decide +kernel
theorem vok_X3_product : VOK pX3_product := ⟨(wsm_3 (i := 115) rfl rfl), (wsm_0 (i := 7) rfl), (wsm_1 (i := 7) rfl rfl), by decide, by decide⟩
def pX3_one : AP := (yX3_one, cX3_one, 3, none, FRX3, KRX3, LRX3)
theorem okp_X3_one : POK pX3_one := ⟨(wsm_3 (i := 120) rfl rfl), by decide +kernel, FRX3_ok, KRX3_ok, LRX3_ok⟩
theorem nar_X3_one : nargs pX3_one 1 := by unfold nargs; decide +kernel
theorem vok_X3_one : VOK pX3_one := ⟨(wsm_3 (i := 119) rfl rfl), (wsm_0 (i := 8) rfl), (wsm_1 (i := 7) rfl rfl), by decide, by decide⟩
def pX3_name : AP := (yX3_name, cX3_name, 2, none, FRX3, KRX3, LRX3)
theorem okp_X3_name : POK pX3_name := ⟨(wsm_3 (i := 137) rfl rfl), by decide +kernel, FRX3_ok, KRX3_ok, LRX3_ok⟩
theorem nar_X3_name : nargs pX3_name 1 := by unfold nargs; decide +kernel
theorem vok_X3_name : VOK pX3_name := ⟨(wsm_3 (i := 136) rfl rfl), (wsm_0 (i := 11) rfl), (wsm_1 (i := 7) rfl rfl), by decide, by decide⟩
def pX3_around : AP := (yX3_around, cX3_around, 3, none, FRX3, KRX3, LRX3)
theorem okp_X3_around : POK pX3_around := ⟨(wsm_3 (i := 141) rfl rfl), by decide +kernel, FRX3_ok, KRX3_ok, LRX3_ok⟩
theorem nar_X3_around : nargs pX3_around 2 := by unfold nargs; decide +kernel
theorem vok_X3_around : VOK pX3_around := ⟨(wsm_3 (i := 140) rfl rfl), (wsm_0 (i := 12) rfl), (wsm_1 (i := 7) rfl rfl), by decide, by decide⟩
def pX3_choice : AP := (yX3_choice, cX3_choice, 4, none, FRX3, KRX3, LRX3)
theorem okp_X3_choice : POK pX3_choice := ⟨(wsm_3 (i := 149) rfl rfl), by decide +kernel, FRX3_ok, KRX3_ok, LRX3_ok⟩
theorem nar_X3_choice : nargs pX3_choice 1 := by unfold nargs; decide +kernel
theorem vok_X3_choice : VOK pX3_choice := ⟨(wsm_3 (i := 148) rfl rfl), (wsm_0 (i := 14) rfl), (wsm_1 (i := 7) rfl rfl), by decide, by decide⟩
def pX3_either : AP := (yX3_either, cX3_either, 3, none, FRX3, KRX3, LRX3)
theorem okp_X3_either : POK pX3_either := ⟨(wsm_3 (i := 153) rfl rfl), by decide +kernel, FRX3_ok, KRX3_ok, LRX3_ok⟩
theorem nar_X3_either : nargs pX3_either 1 := by unfold nargs; decide +kernel
theorem vok_X3_either : VOK pX3_either := ⟨(wsm_3 (i := 152) rfl rfl), (wsm_0 (i := 15) rfl), (wsm_1 (i := 7) rfl rfl), by decide, by decide⟩
def pX3_both : AP := (yX3_both, cX3_both, 3, none, FRX3, KRX3, LRX3)
theorem okp_X3_both : POK pX3_both := ⟨(wsm_3 (i := 157) rfl rfl), by decide +kernel, FRX3_ok, KRX3_ok, LRX3_ok⟩
theorem nar_X3_both : nargs pX3_both 1 := by unfold nargs; decide +kernel
theorem vok_X3_both : VOK pX3_both := ⟨(wsm_3 (i := 156) rfl rfl), (wsm_0 (i := 16) rfl), (wsm_1 (i := 7) rfl rfl), by decide, by decide⟩
def pX3_ask : AP := (yX3_ask, cX3_ask, 4, none, FRX3, KRX3, LRX3)
theorem okp_X3_ask : POK pX3_ask := ⟨(wsm_3 (i := 161) rfl rfl), by decide +kernel, FRX3_ok, KRX3_ok, LRX3_ok⟩
theorem nar_X3_ask : nargs pX3_ask 1 := by unfold nargs; decide +kernel
theorem vok_X3_ask : VOK pX3_ask := ⟨(wsm_3 (i := 160) rfl rfl), (wsm_0 (i := 17) rfl), (wsm_1 (i := 7) rfl rfl), by decide, by decide⟩
def pX3_deny : AP := (yX3_deny, cX3_deny, 2, none, FRX3, KRX3, LRX3)
theorem okp_X3_deny : POK pX3_deny := ⟨(wsm_3 (i := 165) rfl rfl), by decide +kernel, FRX3_ok, KRX3_ok, LRX3_ok⟩
theorem nar_X3_deny : nargs pX3_deny 1 := by unfold nargs; decide +kernel
theorem vok_X3_deny : VOK pX3_deny := ⟨(wsm_3 (i := 164) rfl rfl), (wsm_0 (i := 18) rfl), (wsm_1 (i := 7) rfl rfl), by decide, by decide⟩
def pX4_copyFrom : AP := (yX4_copyFrom, cX4_copyFrom, 2, none, FRX4, KRX4, LRX4)
theorem okp_X4_copyFrom : POK pX4_copyFrom := ⟨(wsm_6 (i := 13) rfl rfl), by decide +kernel, FRX4_ok, KRX4_ok, LRX4_ok⟩
theorem nar_X4_copyFrom : nargs pX4_copyFrom 1 := by unfold nargs; decide +kernel
theorem vok_X4_copyFrom : VOK pX4_copyFrom := ⟨(wsm_6 (i := 11) rfl rfl), (wsm_6 (i := 12) rfl rfl), (wsm_1 (i := 5) rfl rfl), by decide, by decide⟩
def pX4_keep : AP := (yX4_keep, cX4_keep, 2, none, FRX4, KRX4, LRX4)
theorem okp_X4_keep : POK pX4_keep := ⟨(wsm_4 (i := 13) rfl rfl), by decide +kernel, FRX4_ok, KRX4_ok, LRX4_ok⟩
theorem nar_X4_keep : nargs pX4_keep 1 := by unfold nargs; decide +kernel
theorem vok_X4_keep : VOK pX4_keep := ⟨(wsm_4 (i := 11) rfl rfl), (wsm_4 (i := 12) rfl rfl), (wsm_1 (i := 5) rfl rfl), by decide, by decide⟩
def pX4_takeBack : AP := (yX4_takeBack, cX4_takeBack, 2, (some FieldType.boolean), FRX4, KRX4, LRX4)
theorem okp_X4_takeBack : POK pX4_takeBack := ⟨(wsm_4 (i := 207) rfl rfl), by decide +kernel, FRX4_ok, KRX4_ok, LRX4_ok⟩
theorem nar_X4_takeBack : nargs pX4_takeBack 1 := by unfold nargs; decide +kernel
theorem vok_X4_takeBack : VOK pX4_takeBack := ⟨(wsm_4 (i := 205) rfl rfl), (wsm_4 (i := 206) rfl rfl), (wsm_1 (i := 5) rfl rfl), by decide, by decide⟩
def pX5_copyFrom : AP := (yX5_copyFrom, cX5_copyFrom, 2, none, FRX5, KRX5, LRX5)
theorem okp_X5_copyFrom : POK pX5_copyFrom := ⟨(wsm_6 (i := 8) rfl rfl), by decide +kernel, FRX5_ok, KRX5_ok, LRX5_ok⟩
theorem nar_X5_copyFrom : nargs pX5_copyFrom 1 := by unfold nargs; decide +kernel
theorem vok_X5_copyFrom : VOK pX5_copyFrom := ⟨(wsm_6 (i := 6) rfl rfl), (wsm_6 (i := 7) rfl rfl), (wsm_1 (i := 4) rfl rfl), by decide, by decide⟩
def pX5_lay : AP := (yX5_lay, cX5_lay, 4, none, FRX5, KRX5, LRX5)
theorem okp_X5_lay : POK pX5_lay := ⟨(wsm_2 (i := 159) rfl rfl), by decide +kernel, FRX5_ok, KRX5_ok, LRX5_ok⟩
theorem nar_X5_lay : nargs pX5_lay 3 := by unfold nargs; decide +kernel
theorem vok_X5_lay : VOK pX5_lay := ⟨(wsm_2 (i := 157) rfl rfl), (wsm_2 (i := 158) rfl rfl), (wsm_1 (i := 4) rfl rfl), by decide, by decide⟩
def pX5_near : AP := (yX5_near, cX5_near, 3, (some FieldType.int), FRX5, KRX5, LRX5)
theorem okp_X5_near : POK pX5_near := ⟨(wsm_4 (i := 75) rfl rfl), by decide +kernel, FRX5_ok, KRX5_ok, LRX5_ok⟩
theorem nar_X5_near : nargs pX5_near 2 := by unfold nargs; decide +kernel
theorem vok_X5_near : VOK pX5_near := ⟨(wsm_4 (i := 73) rfl rfl), (wsm_4 (i := 74) rfl rfl), (wsm_1 (i := 4) rfl rfl), by decide, by decide⟩
def pX5_besideAll : AP := (yX5_besideAll, cX5_besideAll, 4, (some FieldType.int), FRX5, KRX5, LRX5)
theorem okp_X5_besideAll : POK pX5_besideAll := ⟨(wsm_5 (i := 61) rfl rfl), by decide +kernel, FRX5_ok, KRX5_ok, LRX5_ok⟩
theorem nar_X5_besideAll : nargs pX5_besideAll 1 := by unfold nargs; decide +kernel
theorem vok_X5_besideAll : VOK pX5_besideAll := ⟨(wsm_5 (i := 59) rfl rfl), (wsm_5 (i := 60) rfl rfl), (wsm_1 (i := 4) rfl rfl), by decide, by decide⟩
def pX5_together : AP := (yX5_together, cX5_together, 3, (some FieldType.int), FRX5, KRX5, LRX5)
theorem okp_X5_together : POK pX5_together := ⟨(wsm_5 (i := 87) rfl rfl), by decide +kernel, FRX5_ok, KRX5_ok, LRX5_ok⟩
theorem nar_X5_together : nargs pX5_together 0 := by unfold nargs; decide +kernel
theorem vok_X5_together : VOK pX5_together := ⟨(wsm_5 (i := 85) rfl rfl), (wsm_5 (i := 86) rfl rfl), (wsm_1 (i := 4) rfl rfl), by decide, by decide⟩
def pX5_odd : AP := (yX5_odd, cX5_odd, 3, (some FieldType.int), FRX5, KRX5, LRX5)
theorem okp_X5_odd : POK pX5_odd := ⟨(wsm_5 (i := 65) rfl rfl), by decide +kernel, FRX5_ok, KRX5_ok, LRX5_ok⟩
theorem nar_X5_odd : nargs pX5_odd 0 := by unfold nargs; decide +kernel
theorem vok_X5_odd : VOK pX5_odd := ⟨(wsm_5 (i := 63) rfl rfl), (wsm_5 (i := 64) rfl rfl), (wsm_1 (i := 4) rfl rfl), by decide, by decide⟩
def pX5_group : AP := (yX5_group, cX5_group, 5, (some FieldType.int), FRX5, KRX5, LRX5)
theorem okp_X5_group : POK pX5_group := ⟨(wsm_5 (i := 57) rfl rfl), by decide +kernel, FRX5_ok, KRX5_ok, LRX5_ok⟩
theorem nar_X5_group : nargs pX5_group 1 := by unfold nargs; decide +kernel
theorem vok_X5_group : VOK pX5_group := ⟨(wsm_5 (i := 55) rfl rfl), (wsm_5 (i := 56) rfl rfl), (wsm_1 (i := 4) rfl rfl), by decide, by decide⟩
def pX5_groups : AP := (yX5_groups, cX5_groups, 5, (some FieldType.int), FRX5, KRX5, LRX5)
theorem okp_X5_groups : POK pX5_groups := ⟨(wsm_5 (i := 53) rfl rfl), by decide +kernel, FRX5_ok, KRX5_ok, LRX5_ok⟩
theorem nar_X5_groups : nargs pX5_groups 1 := by unfold nargs; decide +kernel
theorem vok_X5_groups : VOK pX5_groups := ⟨(wsm_5 (i := 51) rfl rfl), (wsm_5 (i := 52) rfl rfl), (wsm_1 (i := 4) rfl rfl), by decide, by decide⟩
def pX5_greatest : AP := (yX5_greatest, cX5_greatest, 6, (some FieldType.int), FRX5, KRX5, LRX5)
theorem okp_X5_greatest : POK pX5_greatest := ⟨(wsm_5 (i := 147) rfl rfl), by decide +kernel, FRX5_ok, KRX5_ok, LRX5_ok⟩
theorem nar_X5_greatest : nargs pX5_greatest 1 := by unfold nargs; decide +kernel
theorem vok_X5_greatest : VOK pX5_greatest := ⟨(wsm_5 (i := 145) rfl rfl), (wsm_5 (i := 146) rfl rfl), (wsm_1 (i := 4) rfl rfl), by decide, by decide⟩
def pX5_hangTogether : AP := (yX5_hangTogether, cX5_hangTogether, 3, (some FieldType.boolean), FRX5, KRX5, LRX5)
theorem okp_X5_hangTogether : POK pX5_hangTogether := ⟨(wsm_5 (i := 49) rfl rfl), by decide +kernel, FRX5_ok, KRX5_ok, LRX5_ok⟩
theorem nar_X5_hangTogether : nargs pX5_hangTogether 0 := by unfold nargs; decide +kernel
theorem vok_X5_hangTogether : VOK pX5_hangTogether := ⟨(wsm_5 (i := 47) rfl rfl), (wsm_5 (i := 48) rfl rfl), (wsm_1 (i := 4) rfl rfl), by decide, by decide⟩
def pX6_clauseCount : AP := (yX6_clauseCount, cX6_clauseCount, 1, (some FieldType.int), FRX6, KRX6, LRX6)
theorem okp_X6_clauseCount : POK pX6_clauseCount := ⟨(wsm_4 (i := 172) rfl rfl), by decide +kernel, FRX6_ok, KRX6_ok, LRX6_ok⟩
theorem nar_X6_clauseCount : nargs pX6_clauseCount 0 := by unfold nargs; decide +kernel
theorem vok_X6_clauseCount : VOK pX6_clauseCount := ⟨(wsm_4 (i := 170) rfl rfl), (wsm_4 (i := 171) rfl rfl), (wsm_1 (i := 19) rfl rfl), by decide, by decide⟩
def pX6_kind : AP := (yX6_kind, cX6_kind, 2, (some FieldType.int), FRX6, KRX6, LRX6)
theorem okp_X6_kind : POK pX6_kind := ⟨(wsm_4 (i := 176) rfl rfl), by decide +kernel, FRX6_ok, KRX6_ok, LRX6_ok⟩
theorem nar_X6_kind : nargs pX6_kind 1 := by unfold nargs; decide +kernel
theorem vok_X6_kind : VOK pX6_kind := ⟨(wsm_4 (i := 174) rfl rfl), (wsm_4 (i := 175) rfl rfl), (wsm_1 (i := 19) rfl rfl), by decide, by decide⟩
def pX6_number : AP := (yX6_number, cX6_number, 4, (some FieldType.int), FRX6, KRX6, LRX6)
theorem okp_X6_number : POK pX6_number := ⟨(wsm_4 (i := 180) rfl rfl), by decide +kernel, FRX6_ok, KRX6_ok, LRX6_ok⟩
theorem nar_X6_number : nargs pX6_number 2 := by unfold nargs; decide +kernel
theorem vok_X6_number : VOK pX6_number := ⟨(wsm_4 (i := 178) rfl rfl), (wsm_4 (i := 179) rfl rfl), (wsm_1 (i := 19) rfl rfl), by decide, by decide⟩
def pX6_firstSign : AP := (yX6_firstSign, cX6_firstSign, 2, (some FieldType.int), FRX6, KRX6, LRX6)
theorem okp_X6_firstSign : POK pX6_firstSign := ⟨(wsm_4 (i := 89) rfl rfl), by decide +kernel, FRX6_ok, KRX6_ok, LRX6_ok⟩
theorem nar_X6_firstSign : nargs pX6_firstSign 1 := by unfold nargs; decide +kernel
theorem vok_X6_firstSign : VOK pX6_firstSign := ⟨(wsm_4 (i := 87) rfl rfl), (wsm_4 (i := 88) rfl rfl), (wsm_1 (i := 19) rfl rfl), by decide, by decide⟩
def pX6_behindSigns : AP := (yX6_behindSigns, cX6_behindSigns, 2, (some FieldType.int), FRX6, KRX6, LRX6)
theorem okp_X6_behindSigns : POK pX6_behindSigns := ⟨(wsm_4 (i := 100) rfl rfl), by decide +kernel, FRX6_ok, KRX6_ok, LRX6_ok⟩
theorem nar_X6_behindSigns : nargs pX6_behindSigns 1 := by unfold nargs; decide +kernel
theorem vok_X6_behindSigns : VOK pX6_behindSigns := ⟨(wsm_4 (i := 98) rfl rfl), (wsm_4 (i := 99) rfl rfl), (wsm_1 (i := 19) rfl rfl), by decide, by decide⟩
def pX6_sign : AP := (yX6_sign, cX6_sign, 2, (some FieldType.int), FRX6, KRX6, LRX6)
theorem okp_X6_sign : POK pX6_sign := ⟨(wsm_4 (i := 104) rfl rfl), by decide +kernel, FRX6_ok, KRX6_ok, LRX6_ok⟩
theorem nar_X6_sign : nargs pX6_sign 1 := by unfold nargs; decide +kernel
theorem vok_X6_sign : VOK pX6_sign := ⟨(wsm_4 (i := 102) rfl rfl), (wsm_4 (i := 103) rfl rfl), (wsm_1 (i := 19) rfl rfl), by decide, by decide⟩
def pX6_argument : AP := (yX6_argument, cX6_argument, 2, (some FieldType.int), FRX6, KRX6, LRX6)
theorem okp_X6_argument : POK pX6_argument := ⟨(wsm_4 (i := 108) rfl rfl), by decide +kernel, FRX6_ok, KRX6_ok, LRX6_ok⟩
theorem nar_X6_argument : nargs pX6_argument 1 := by unfold nargs; decide +kernel
theorem vok_X6_argument : VOK pX6_argument := ⟨(wsm_4 (i := 106) rfl rfl), (wsm_4 (i := 107) rfl rfl), (wsm_1 (i := 19) rfl rfl), by decide, by decide⟩
def pX7_cut : AP := (yX7_cut, cX7_cut, 6, none, FRX7, KRX7, LRX7)
theorem okp_X7_cut : POK pX7_cut := ⟨(wsm_2 (i := 187) rfl rfl), by decide +kernel, FRX7_ok, KRX7_ok, LRX7_ok⟩
theorem nar_X7_cut : nargs pX7_cut 2 := by unfold nargs; decide +kernel
theorem vok_X7_cut : VOK pX7_cut := ⟨(wsm_2 (i := 185) rfl rfl), (wsm_2 (i := 186) rfl rfl), (wsm_1 (i := 8) rfl rfl), by decide, by decide⟩
def pX7_kind : AP := (yX7_kind, cX7_kind, 2, (some FieldType.int), FRX7, KRX7, LRX7)
theorem okp_X7_kind : POK pX7_kind := ⟨(wsm_3 (i := 92) rfl rfl), by decide +kernel, FRX7_ok, KRX7_ok, LRX7_ok⟩
theorem nar_X7_kind : nargs pX7_kind 1 := by unfold nargs; decide +kernel
theorem vok_X7_kind : VOK pX7_kind := ⟨(wsm_3 (i := 90) rfl rfl), (wsm_3 (i := 91) rfl rfl), (wsm_1 (i := 8) rfl rfl), by decide, by decide⟩
def pX7_number : AP := (yX7_number, cX7_number, 2, (some FieldType.int), FRX7, KRX7, LRX7)
theorem okp_X7_number : POK pX7_number := ⟨(wsm_3 (i := 128) rfl rfl), by decide +kernel, FRX7_ok, KRX7_ok, LRX7_ok⟩
theorem nar_X7_number : nargs pX7_number 1 := by unfold nargs; decide +kernel
theorem vok_X7_number : VOK pX7_number := ⟨(wsm_3 (i := 126) rfl rfl), (wsm_3 (i := 127) rfl rfl), (wsm_1 (i := 8) rfl rfl), by decide, by decide⟩
def pX7_place : AP := (yX7_place, cX7_place, 2, (some FieldType.int), FRX7, KRX7, LRX7)
theorem okp_X7_place : POK pX7_place := ⟨(wsm_3 (i := 104) rfl rfl), by decide +kernel, FRX7_ok, KRX7_ok, LRX7_ok⟩
theorem nar_X7_place : nargs pX7_place 1 := by unfold nargs; decide +kernel
theorem vok_X7_place : VOK pX7_place := ⟨(wsm_3 (i := 102) rfl rfl), (wsm_3 (i := 103) rfl rfl), (wsm_1 (i := 8) rfl rfl), by decide, by decide⟩
def pX7_last : AP := (yX7_last, cX7_last, 1, (some FieldType.int), FRX7, KRX7, LRX7)
theorem okp_X7_last : POK pX7_last := ⟨(wsm_3 (i := 108) rfl rfl), by decide +kernel, FRX7_ok, KRX7_ok, LRX7_ok⟩
theorem nar_X7_last : nargs pX7_last 0 := by unfold nargs; decide +kernel
theorem vok_X7_last : VOK pX7_last := ⟨(wsm_3 (i := 106) rfl rfl), (wsm_3 (i := 107) rfl rfl), (wsm_1 (i := 8) rfl rfl), by decide, by decide⟩
def pX7_add : AP := (yX7_add, cX7_add, 4, none, FRX7, KRX7, LRX7)
theorem okp_X7_add : POK pX7_add := ⟨(wsm_3 (i := 24) rfl rfl), by decide +kernel, FRX7_ok, KRX7_ok, LRX7_ok⟩
theorem nar_X7_add : nargs pX7_add 3 := by unfold nargs; decide +kernel
theorem vok_X7_add : VOK pX7_add := ⟨(wsm_3 (i := 23) rfl rfl), (wsm_0 (i := 3) rfl), (wsm_1 (i := 8) rfl rfl), by decide, by decide⟩
def pX7_cutOne : AP := (yX7_cutOne, cX7_cutOne, 6, (some FieldType.int), FRX7, KRX7, LRX7)
theorem okp_X7_cutOne : POK pX7_cutOne := ⟨(wsm_2 (i := 194) rfl rfl), by decide +kernel, FRX7_ok, KRX7_ok, LRX7_ok⟩
theorem nar_X7_cutOne : nargs pX7_cutOne 3 := by unfold nargs; decide +kernel
theorem vok_X7_cutOne : VOK pX7_cutOne := ⟨(wsm_2 (i := 193) rfl rfl), (wsm_0 (i := 2) rfl), (wsm_1 (i := 8) rfl rfl), by decide, by decide⟩
def pX7_isLetter : AP := (yX7_isLetter, cX7_isLetter, 1, (some FieldType.boolean), FRX7, KRX7, LRX7)
theorem okp_X7_isLetter : POK pX7_isLetter := ⟨(wsm_2 (i := 197) rfl rfl), by decide +kernel, FRX7_ok, KRX7_ok, LRX7_ok⟩
theorem nar_X7_isLetter : nargs pX7_isLetter 1 := by unfold nargs; decide +kernel
theorem tok_X7_isLetter : TOK pX7_isLetter := ⟨(wsm_2 (i := 196) rfl rfl), (wsm_1 (i := 8) rfl rfl), by decide, by decide⟩
def pX7_isDigit : AP := (yX7_isDigit, cX7_isDigit, 1, (some FieldType.boolean), FRX7, KRX7, LRX7)
theorem okp_X7_isDigit : POK pX7_isDigit := ⟨(wsm_3 (i := 27) rfl rfl), by decide +kernel, FRX7_ok, KRX7_ok, LRX7_ok⟩
theorem nar_X7_isDigit : nargs pX7_isDigit 1 := by unfold nargs; decide +kernel
theorem tok_X7_isDigit : TOK pX7_isDigit := ⟨(wsm_3 (i := 26) rfl rfl), (wsm_1 (i := 8) rfl rfl), by decide, by decide⟩
def pX7_signOf : AP := (yX7_signOf, cX7_signOf, 2, (some FieldType.int), FRX7, KRX7, LRX7)
theorem okp_X7_signOf : POK pX7_signOf := ⟨(wsm_3 (i := 30) rfl rfl), by decide +kernel, FRX7_ok, KRX7_ok, LRX7_ok⟩
theorem nar_X7_signOf : nargs pX7_signOf 1 := by unfold nargs; decide +kernel
theorem tok_X7_signOf : TOK pX7_signOf := ⟨(wsm_3 (i := 29) rfl rfl), (wsm_1 (i := 8) rfl rfl), by decide, by decide⟩
def pX7_wordAt : AP := (yX7_wordAt, cX7_wordAt, 4, (some FieldType.int), FRX7, KRX7, LRX7)
theorem okp_X7_wordAt : POK pX7_wordAt := ⟨(wsm_2 (i := 201) rfl rfl), by decide +kernel, FRX7_ok, KRX7_ok, LRX7_ok⟩
theorem nar_X7_wordAt : nargs pX7_wordAt 3 := by unfold nargs; decide +kernel
theorem tok_X7_wordAt : TOK pX7_wordAt := ⟨(wsm_2 (i := 200) rfl rfl), (wsm_1 (i := 8) rfl rfl), by decide, by decide⟩
def pX7_wordIn : AP := (yX7_wordIn, cX7_wordIn, 6, (some FieldType.int), FRX7, KRX7, LRX7)
theorem okp_X7_wordIn : POK pX7_wordIn := ⟨(wsm_2 (i := 205) rfl rfl), by decide +kernel, FRX7_ok, KRX7_ok, LRX7_ok⟩
theorem nar_X7_wordIn : nargs pX7_wordIn 5 := by unfold nargs; decide +kernel
theorem tok_X7_wordIn : TOK pX7_wordIn := ⟨(wsm_2 (i := 204) rfl rfl), (wsm_1 (i := 8) rfl rfl), by decide, by decide⟩
def pX7_isWord : AP := (yX7_isWord, cX7_isWord, 7, (some FieldType.boolean), FRX7, KRX7, LRX7)
theorem okp_X7_isWord : POK pX7_isWord := ⟨(wsm_2 (i := 218) rfl rfl), by decide +kernel, FRX7_ok, KRX7_ok, LRX7_ok⟩
theorem nar_X7_isWord : nargs pX7_isWord 5 := by unfold nargs; decide +kernel
theorem tok_X7_isWord : TOK pX7_isWord := ⟨(wsm_2 (i := 217) rfl rfl), (wsm_1 (i := 8) rfl rfl), by decide, by decide⟩
def pX8_copyFrom : AP := (yX8_copyFrom, cX8_copyFrom, 2, none, FRX8, KRX8, LRX8)
theorem okp_X8_copyFrom : POK pX8_copyFrom := ⟨(wsm_5 (i := 13) rfl rfl), by decide +kernel, FRX8_ok, KRX8_ok, LRX8_ok⟩
theorem nar_X8_copyFrom : nargs pX8_copyFrom 1 := by unfold nargs; decide +kernel
theorem vok_X8_copyFrom : VOK pX8_copyFrom := ⟨(wsm_5 (i := 11) rfl rfl), (wsm_5 (i := 12) rfl rfl), (wsm_1 (i := 3) rfl rfl), by decide, by decide⟩
def pX8_store : AP := (yX8_store, cX8_store, 3, none, FRX8, KRX8, LRX8)
theorem okp_X8_store : POK pX8_store := ⟨(wsm_4 (i := 17) rfl rfl), by decide +kernel, FRX8_ok, KRX8_ok, LRX8_ok⟩
theorem nar_X8_store : nargs pX8_store 2 := by unfold nargs; decide +kernel
theorem vok_X8_store : VOK pX8_store := ⟨(wsm_4 (i := 15) rfl rfl), (wsm_4 (i := 16) rfl rfl), (wsm_1 (i := 3) rfl rfl), by decide, by decide⟩
def pX8_restore : AP := (yX8_restore, cX8_restore, 4, none, FRX8, KRX8, LRX8)
theorem okp_X8_restore : POK pX8_restore := ⟨(wsm_4 (i := 211) rfl rfl), by decide +kernel, FRX8_ok, KRX8_ok, LRX8_ok⟩
theorem nar_X8_restore : nargs pX8_restore 2 := by unfold nargs; decide +kernel
theorem vok_X8_restore : VOK pX8_restore := ⟨(wsm_4 (i := 209) rfl rfl), (wsm_4 (i := 210) rfl rfl), (wsm_1 (i := 3) rfl rfl), by decide, by decide⟩
def pX8_told : AP := (yX8_told, cX8_told, 2, (some FieldType.boolean), FRX8, KRX8, LRX8)
theorem okp_X8_told : POK pX8_told := ⟨(wsm_2 (i := 154) rfl rfl), by decide +kernel, FRX8_ok, KRX8_ok, LRX8_ok⟩
theorem nar_X8_told : nargs pX8_told 1 := by unfold nargs; decide +kernel
theorem vok_X8_told : VOK pX8_told := ⟨(wsm_2 (i := 152) rfl rfl), (wsm_2 (i := 153) rfl rfl), (wsm_1 (i := 3) rfl rfl), by decide, by decide⟩
def pX8_all : AP := (yX8_all, cX8_all, 1, (some FieldType.int), FRX8, KRX8, LRX8)
theorem okp_X8_all : POK pX8_all := ⟨(wsm_5 (i := 143) rfl rfl), by decide +kernel, FRX8_ok, KRX8_ok, LRX8_ok⟩
theorem nar_X8_all : nargs pX8_all 0 := by unfold nargs; decide +kernel
theorem vok_X8_all : VOK pX8_all := ⟨(wsm_5 (i := 141) rfl rfl), (wsm_5 (i := 142) rfl rfl), (wsm_1 (i := 3) rfl rfl), by decide, by decide⟩
def pX8_settle : AP := (yX8_settle, cX8_settle, 3, (some FieldType.int), FRX8, KRX8, LRX8)
theorem okp_X8_settle : POK pX8_settle := ⟨(wsm_2 (i := 143) rfl rfl), by decide +kernel, FRX8_ok, KRX8_ok, LRX8_ok⟩
theorem nar_X8_settle : nargs pX8_settle 2 := by unfold nargs; decide +kernel
theorem vok_X8_settle : VOK pX8_settle := ⟨(wsm_2 (i := 141) rfl rfl), (wsm_2 (i := 142) rfl rfl), (wsm_1 (i := 3) rfl rfl), by decide, by decide⟩
def pX8_bell : AP := (yX8_bell, cX8_bell, 2, (some FieldType.boolean), FRX8, KRX8, LRX8)
theorem okp_X8_bell : POK pX8_bell := ⟨(wsm_4 (i := 67) rfl rfl), by decide +kernel, FRX8_ok, KRX8_ok, LRX8_ok⟩
theorem nar_X8_bell : nargs pX8_bell 0 := by unfold nargs; decide +kernel
theorem vok_X8_bell : VOK pX8_bell := ⟨(wsm_4 (i := 65) rfl rfl), (wsm_4 (i := 66) rfl rfl), (wsm_1 (i := 3) rfl rfl), by decide, by decide⟩
def pX8_nextX : AP := (yX8_nextX, cX8_nextX, 2, (some FieldType.int), FRX8, KRX8, LRX8)
theorem okp_X8_nextX : POK pX8_nextX := ⟨(wsm_4 (i := 157) rfl rfl), by decide +kernel, FRX8_ok, KRX8_ok, LRX8_ok⟩
theorem nar_X8_nextX : nargs pX8_nextX 0 := by unfold nargs; decide +kernel
theorem vok_X8_nextX : VOK pX8_nextX := ⟨(wsm_4 (i := 155) rfl rfl), (wsm_4 (i := 156) rfl rfl), (wsm_1 (i := 3) rfl rfl), by decide, by decide⟩
def pX8_draw : AP := (yX8_draw, cX8_draw, 1, (some FieldType.int), FRX8, KRX8, LRX8)
theorem okp_X8_draw : POK pX8_draw := ⟨(wsm_4 (i := 153) rfl rfl), by decide +kernel, FRX8_ok, KRX8_ok, LRX8_ok⟩
theorem nar_X8_draw : nargs pX8_draw 0 := by unfold nargs; decide +kernel
theorem vok_X8_draw : VOK pX8_draw := ⟨(wsm_4 (i := 151) rfl rfl), (wsm_4 (i := 152) rfl rfl), (wsm_1 (i := 3) rfl rfl), by decide, by decide⟩
def pX8_keeps : AP := (yX8_keeps, cX8_keeps, 2, (some FieldType.boolean), FRX8, KRX8, LRX8)
theorem okp_X8_keeps : POK pX8_keeps := ⟨(wsm_4 (i := 9) rfl rfl), by decide +kernel, FRX8_ok, KRX8_ok, LRX8_ok⟩
theorem nar_X8_keeps : nargs pX8_keeps 1 := by unfold nargs; decide +kernel
theorem vok_X8_keeps : VOK pX8_keeps := ⟨(wsm_4 (i := 7) rfl rfl), (wsm_4 (i := 8) rfl rfl), (wsm_1 (i := 3) rfl rfl), by decide, by decide⟩
def pX8_housesBy : AP := (yX8_housesBy, cX8_housesBy, 5, (some FieldType.int), FRX8, KRX8, LRX8)
theorem okp_X8_housesBy : POK pX8_housesBy := ⟨(wsm_4 (i := 71) rfl rfl), by decide +kernel, FRX8_ok, KRX8_ok, LRX8_ok⟩
theorem nar_X8_housesBy : nargs pX8_housesBy 2 := by unfold nargs; decide +kernel
theorem vok_X8_housesBy : VOK pX8_housesBy := ⟨(wsm_4 (i := 69) rfl rfl), (wsm_4 (i := 70) rfl rfl), (wsm_1 (i := 3) rfl rfl), by decide, by decide⟩
def pX8_mayGive : AP := (yX8_mayGive, cX8_mayGive, 3, (some FieldType.int), FRX8, KRX8, LRX8)
theorem okp_X8_mayGive : POK pX8_mayGive := ⟨(wsm_4 (i := 5) rfl rfl), by decide +kernel, FRX8_ok, KRX8_ok, LRX8_ok⟩
theorem nar_X8_mayGive : nargs pX8_mayGive 0 := by unfold nargs; decide +kernel
theorem vok_X8_mayGive : VOK pX8_mayGive := ⟨(wsm_4 (i := 3) rfl rfl), (wsm_4 (i := 4) rfl rfl), (wsm_1 (i := 3) rfl rfl), by decide, by decide⟩
def pX8_can : AP := (yX8_can, cX8_can, 5, (some FieldType.boolean), FRX8, KRX8, LRX8)
theorem okp_X8_can : POK pX8_can := ⟨(wsm_4 (i := 0) rfl rfl), by decide +kernel, FRX8_ok, KRX8_ok, LRX8_ok⟩
theorem nar_X8_can : nargs pX8_can 4 := by unfold nargs; decide +kernel
theorem vok_X8_can : VOK pX8_can := ⟨(wsm_3 (i := 238) rfl rfl), (wsm_3 (i := 239) rfl rfl), (wsm_1 (i := 3) rfl rfl), by decide, by decide⟩
def pX8_act : AP := (yX8_act, cX8_act, 4, none, FRX8, KRX8, LRX8)
theorem okp_X8_act : POK pX8_act := ⟨(wsm_4 (i := 22) rfl rfl), by decide +kernel, FRX8_ok, KRX8_ok, LRX8_ok⟩
theorem nar_X8_act : nargs pX8_act 3 := by unfold nargs; decide +kernel
theorem vok_X8_act : VOK pX8_act := ⟨(wsm_4 (i := 20) rfl rfl), (wsm_4 (i := 21) rfl rfl), (wsm_1 (i := 3) rfl rfl), by decide, by decide⟩
def pX8_set : AP := (yX8_set, cX8_set, 4, none, FRX8, KRX8, LRX8)
theorem okp_X8_set : POK pX8_set := ⟨(wsm_4 (i := 26) rfl rfl), by decide +kernel, FRX8_ok, KRX8_ok, LRX8_ok⟩
theorem nar_X8_set : nargs pX8_set 3 := by unfold nargs; decide +kernel
theorem vok_X8_set : VOK pX8_set := ⟨(wsm_4 (i := 24) rfl rfl), (wsm_4 (i := 25) rfl rfl), (wsm_1 (i := 3) rfl rfl), by decide, by decide⟩
def pX8_note : AP := (yX8_note, cX8_note, 3, none, FRX8, KRX8, LRX8)
theorem okp_X8_note : POK pX8_note := ⟨(wsm_4 (i := 30) rfl rfl), by decide +kernel, FRX8_ok, KRX8_ok, LRX8_ok⟩
theorem nar_X8_note : nargs pX8_note 2 := by unfold nargs; decide +kernel
theorem vok_X8_note : VOK pX8_note := ⟨(wsm_4 (i := 28) rfl rfl), (wsm_4 (i := 29) rfl rfl), (wsm_1 (i := 3) rfl rfl), by decide, by decide⟩
def pX8_hourOf : AP := (yX8_hourOf, cX8_hourOf, 1, (some FieldType.int), FRX8, KRX8, LRX8)
theorem okp_X8_hourOf : POK pX8_hourOf := ⟨(wsm_4 (i := 239) rfl rfl), by decide +kernel, FRX8_ok, KRX8_ok, LRX8_ok⟩
theorem nar_X8_hourOf : nargs pX8_hourOf 1 := by unfold nargs; decide +kernel
theorem tok_X8_hourOf : TOK pX8_hourOf := ⟨(wsm_4 (i := 238) rfl rfl), (wsm_1 (i := 3) rfl rfl), by decide, by decide⟩
def pX8_houseOf : AP := (yX8_houseOf, cX8_houseOf, 1, (some FieldType.int), FRX8, KRX8, LRX8)
theorem okp_X8_houseOf : POK pX8_houseOf := ⟨(wsm_5 (i := 2) rfl rfl), by decide +kernel, FRX8_ok, KRX8_ok, LRX8_ok⟩
theorem nar_X8_houseOf : nargs pX8_houseOf 1 := by unfold nargs; decide +kernel
theorem tok_X8_houseOf : TOK pX8_houseOf := ⟨(wsm_5 (i := 1) rfl rfl), (wsm_1 (i := 3) rfl rfl), by decide, by decide⟩
def pX8_whatOf : AP := (yX8_whatOf, cX8_whatOf, 1, (some FieldType.int), FRX8, KRX8, LRX8)
theorem okp_X8_whatOf : POK pX8_whatOf := ⟨(wsm_5 (i := 5) rfl rfl), by decide +kernel, FRX8_ok, KRX8_ok, LRX8_ok⟩
theorem nar_X8_whatOf : nargs pX8_whatOf 1 := by unfold nargs; decide +kernel
theorem tok_X8_whatOf : TOK pX8_whatOf := ⟨(wsm_5 (i := 4) rfl rfl), (wsm_1 (i := 3) rfl rfl), by decide, by decide⟩
def pX9_measure : AP := (yX9_measure, cX9_measure, 5, none, FRX9, KRX9, LRX9)
theorem okp_X9_measure : POK pX9_measure := ⟨(wsm_5 (i := 26) rfl rfl), by decide +kernel, FRX9_ok, KRX9_ok, LRX9_ok⟩
theorem nar_X9_measure : nargs pX9_measure 2 := by unfold nargs; decide +kernel
theorem vok_X9_measure : VOK pX9_measure := ⟨(wsm_5 (i := 24) rfl rfl), (wsm_5 (i := 25) rfl rfl), (wsm_1 (i := 9) rfl rfl), by decide, by decide⟩
def pX9_shorten : AP := (yX9_shorten, cX9_shorten, 7, none, FRX9, KRX9, LRX9)
theorem okp_X9_shorten : POK pX9_shorten := ⟨(wsm_5 (i := 31) rfl rfl), by decide +kernel, FRX9_ok, KRX9_ok, LRX9_ok⟩
theorem nar_X9_shorten : nargs pX9_shorten 1 := by unfold nargs; decide +kernel
theorem vok_X9_shorten : VOK pX9_shorten := ⟨(wsm_5 (i := 30) rfl rfl), (wsm_0 (i := 32) rfl), (wsm_1 (i := 9) rfl rfl), by decide, by decide⟩
def pX9_between : AP := (yX9_between, cX9_between, 3, (some FieldType.int), FRX9, KRX9, LRX9)
theorem okp_X9_between : POK pX9_between := ⟨(wsm_5 (i := 36) rfl rfl), by decide +kernel, FRX9_ok, KRX9_ok, LRX9_ok⟩
theorem nar_X9_between : nargs pX9_between 2 := by unfold nargs; decide +kernel
theorem vok_X9_between : VOK pX9_between := ⟨(wsm_5 (i := 34) rfl rfl), (wsm_5 (i := 35) rfl rfl), (wsm_1 (i := 9) rfl rfl), by decide, by decide⟩
def pX9_walk : AP := (yX9_walk, cX9_walk, 3, (some FieldType.int), FRX9, KRX9, LRX9)
theorem okp_X9_walk : POK pX9_walk := ⟨(wsm_5 (i := 45) rfl rfl), by decide +kernel, FRX9_ok, KRX9_ok, LRX9_ok⟩
theorem nar_X9_walk : nargs pX9_walk 1 := by unfold nargs; decide +kernel
theorem vok_X9_walk : VOK pX9_walk := ⟨(wsm_5 (i := 43) rfl rfl), (wsm_5 (i := 44) rfl rfl), (wsm_1 (i := 9) rfl rfl), by decide, by decide⟩
def pX9_partner : AP := (yX9_partner, cX9_partner, 7, (some FieldType.int), FRX9, KRX9, LRX9)
theorem okp_X9_partner : POK pX9_partner := ⟨(wsm_5 (i := 97) rfl rfl), by decide +kernel, FRX9_ok, KRX9_ok, LRX9_ok⟩
theorem nar_X9_partner : nargs pX9_partner 2 := by unfold nargs; decide +kernel
theorem vok_X9_partner : VOK pX9_partner := ⟨(wsm_5 (i := 95) rfl rfl), (wsm_5 (i := 96) rfl rfl), (wsm_1 (i := 9) rfl rfl), by decide, by decide⟩
def pX9_pairUp : AP := (yX9_pairUp, cX9_pairUp, 5, none, FRX9, KRX9, LRX9)
theorem okp_X9_pairUp : POK pX9_pairUp := ⟨(wsm_5 (i := 69) rfl rfl), by decide +kernel, FRX9_ok, KRX9_ok, LRX9_ok⟩
theorem nar_X9_pairUp : nargs pX9_pairUp 2 := by unfold nargs; decide +kernel
theorem vok_X9_pairUp : VOK pX9_pairUp := ⟨(wsm_5 (i := 68) rfl rfl), (wsm_0 (i := 33) rfl), (wsm_1 (i := 9) rfl rfl), by decide, by decide⟩
def pX9_lowestPartner : AP := (yX9_lowestPartner, cX9_lowestPartner, 6, (some FieldType.int), FRX9, KRX9, LRX9)
theorem okp_X9_lowestPartner : POK pX9_lowestPartner := ⟨(wsm_5 (i := 75) rfl rfl), by decide +kernel, FRX9_ok, KRX9_ok, LRX9_ok⟩
theorem nar_X9_lowestPartner : nargs pX9_lowestPartner 1 := by unfold nargs; decide +kernel
theorem vok_X9_lowestPartner : VOK pX9_lowestPartner := ⟨(wsm_5 (i := 74) rfl rfl), (wsm_0 (i := 34) rfl), (wsm_1 (i := 9) rfl rfl), by decide, by decide⟩
def pX9_lowestOf : AP := (yX9_lowestOf, cX9_lowestOf, 2, (some FieldType.int), FRX9, KRX9, LRX9)
theorem okp_X9_lowestOf : POK pX9_lowestOf := ⟨(wsm_5 (i := 78) rfl rfl), by decide +kernel, FRX9_ok, KRX9_ok, LRX9_ok⟩
theorem nar_X9_lowestOf : nargs pX9_lowestOf 1 := by unfold nargs; decide +kernel
theorem tok_X9_lowestOf : TOK pX9_lowestOf := ⟨(wsm_5 (i := 77) rfl rfl), (wsm_1 (i := 9) rfl rfl), by decide, by decide⟩
def pX9_with : AP := (yX9_with, cX9_with, 4, (some FieldType.int), FRX9, KRX9, LRX9)
theorem okp_X9_with : POK pX9_with := ⟨(wsm_5 (i := 82) rfl rfl), by decide +kernel, FRX9_ok, KRX9_ok, LRX9_ok⟩
theorem nar_X9_with : nargs pX9_with 2 := by unfold nargs; decide +kernel
theorem vok_X9_with : VOK pX9_with := ⟨(wsm_5 (i := 81) rfl rfl), (wsm_0 (i := 35) rfl), (wsm_1 (i := 9) rfl rfl), by decide, by decide⟩
def pX10_copyFrom : AP := (yX10_copyFrom, cX10_copyFrom, 3, none, FRX10, KRX10, LRX10)
theorem okp_X10_copyFrom : POK pX10_copyFrom := ⟨(wsm_6 (i := 3) rfl rfl), by decide +kernel, FRX10_ok, KRX10_ok, LRX10_ok⟩
theorem nar_X10_copyFrom : nargs pX10_copyFrom 1 := by unfold nargs; decide +kernel
theorem vok_X10_copyFrom : VOK pX10_copyFrom := ⟨(wsm_6 (i := 1) rfl rfl), (wsm_6 (i := 2) rfl rfl), (wsm_1 (i := 2) rfl rfl), by decide, by decide⟩
def pX10_textOf : AP := (yX10_textOf, cX10_textOf, 2, (some (FieldType.object "CoverFires$Text")), FRX10, KRX10, LRX10)
theorem okp_X10_textOf : POK pX10_textOf := ⟨(wsm_4 (i := 58) rfl rfl), by decide +kernel, FRX10_ok, KRX10_ok, LRX10_ok⟩
theorem nar_X10_textOf : nargs pX10_textOf 1 := by unfold nargs; decide +kernel
theorem vok_X10_textOf : VOK pX10_textOf := ⟨(wsm_4 (i := 56) rfl rfl), (wsm_4 (i := 57) rfl rfl), (wsm_1 (i := 2) rfl rfl), by decide, by decide⟩
def pX10_rule : AP := (yX10_rule, cX10_rule, 1, (some (FieldType.object "CoverFires$Text")), FRX10, KRX10, LRX10)
theorem okp_X10_rule : POK pX10_rule := ⟨(wsm_4 (i := 54) rfl rfl), by decide +kernel, FRX10_ok, KRX10_ok, LRX10_ok⟩
theorem nar_X10_rule : nargs pX10_rule 0 := by unfold nargs; decide +kernel
theorem vok_X10_rule : VOK pX10_rule := ⟨(wsm_4 (i := 52) rfl rfl), (wsm_4 (i := 53) rfl rfl), (wsm_1 (i := 2) rfl rfl), by decide, by decide⟩
def pJ6_bitCount_0f7a4 : AP := (yJ6_bitCount_0f7a4, cJ6_bitCount_0f7a4, 1, (some FieldType.int), FRJ6, KRJ6, LRJ6)
theorem okp_J6_bitCount_0f7a4 : POK pJ6_bitCount_0f7a4 := ⟨(wsm_4 (i := 78) rfl rfl), by decide +kernel, FRJ6_ok, KRJ6_ok, LRJ6_ok⟩
theorem nar_J6_bitCount_0f7a4 : nargs pJ6_bitCount_0f7a4 1 := by unfold nargs; decide +kernel
theorem tok_J6_bitCount_0f7a4 : TOK pJ6_bitCount_0f7a4 := ⟨(wsm_4 (i := 77) rfl rfl), (wsm_1 (i := 22) rfl rfl), by decide, by decide⟩
def pJ13_bitCount_95d88 : AP := (yJ13_bitCount_95d88, cJ13_bitCount_95d88, 2, (some FieldType.int), FRJ13, KRJ13, LRJ13)
theorem okp_J13_bitCount_95d88 : POK pJ13_bitCount_95d88 := ⟨(wsm_5 (i := 187) rfl rfl), by decide +kernel, FRJ13_ok, KRJ13_ok, LRJ13_ok⟩
theorem nar_J13_bitCount_95d88 : nargs pJ13_bitCount_95d88 1 := by unfold nargs; decide +kernel
theorem tok_J13_bitCount_95d88 : TOK pJ13_bitCount_95d88 := ⟨(wsm_5 (i := 186) rfl rfl), (wsm_1 (i := 23) rfl rfl), by decide, by decide⟩
def pJ0_charAt_5068e : AP := (yJ0_charAt_5068e, cJ0_charAt_5068e, 2, (some FieldType.char), FRJ0, KRJ0, LRJ0)
theorem okp_J0_charAt_5068e : POK pJ0_charAt_5068e := ⟨(wsm_2 (i := 222) rfl rfl), by decide +kernel, FRJ0_ok, KRJ0_ok, LRJ0_ok⟩
theorem nar_J0_charAt_5068e : nargs pJ0_charAt_5068e 1 := by unfold nargs; decide +kernel
theorem vok_J0_charAt_5068e : VOK pJ0_charAt_5068e := ⟨(wsm_2 (i := 220) rfl rfl), (wsm_2 (i := 221) rfl rfl), (wsm_1 (i := 14) rfl rfl), by decide, by decide⟩
def pJ0_checkIndex_df160 : AP := (yJ0_checkIndex_df160, cJ0_checkIndex_df160, 2, none, FRJ0, KRJ0, LRJ0)
theorem okp_J0_checkIndex_df160 : POK pJ0_checkIndex_df160 := ⟨(wsm_2 (i := 232) rfl rfl), by decide +kernel, FRJ0_ok, KRJ0_ok, LRJ0_ok⟩
theorem nar_J0_checkIndex_df160 : nargs pJ0_checkIndex_df160 2 := by unfold nargs; decide +kernel
theorem tok_J0_checkIndex_df160 : TOK pJ0_checkIndex_df160 := ⟨(wsm_2 (i := 231) rfl rfl), (wsm_1 (i := 14) rfl rfl), by decide, by decide⟩
def pJ0_coder_7d493 : AP := (yJ0_coder_7d493, cJ0_coder_7d493, 1, (some FieldType.byte), FRJ0, KRJ0, LRJ0)
theorem okp_J0_coder_7d493 : POK pJ0_coder_7d493 := ⟨(wsm_2 (i := 213) rfl rfl), by decide +kernel, FRJ0_ok, KRJ0_ok, LRJ0_ok⟩
theorem nar_J0_coder_7d493 : nargs pJ0_coder_7d493 0 := by unfold nargs; decide +kernel
theorem vok_J0_coder_7d493 : VOK pJ0_coder_7d493 := ⟨(wsm_2 (i := 211) rfl rfl), (wsm_2 (i := 212) rfl rfl), (wsm_1 (i := 14) rfl rfl), by decide, by decide⟩
def pJ0_indexOf_0f7a4 : AP := (yJ0_indexOf_0f7a4, cJ0_indexOf_0f7a4, 2, (some FieldType.int), FRJ0, KRJ0, LRJ0)
theorem okp_J0_indexOf_0f7a4 : POK pJ0_indexOf_0f7a4 := ⟨(wsm_3 (i := 35) rfl rfl), by decide +kernel, FRJ0_ok, KRJ0_ok, LRJ0_ok⟩
theorem nar_J0_indexOf_0f7a4 : nargs pJ0_indexOf_0f7a4 1 := by unfold nargs; decide +kernel
theorem vok_J0_indexOf_0f7a4 : VOK pJ0_indexOf_0f7a4 := ⟨(wsm_3 (i := 33) rfl rfl), (wsm_3 (i := 34) rfl rfl), (wsm_1 (i := 14) rfl rfl), by decide, by decide⟩
def pJ0_indexOf_7cf53 : AP := (yJ0_indexOf_7cf53, cJ0_indexOf_7cf53, 3, (some FieldType.int), FRJ0, KRJ0, LRJ0)
theorem okp_J0_indexOf_7cf53 : POK pJ0_indexOf_7cf53 := ⟨(wsm_3 (i := 39) rfl rfl), by decide +kernel, FRJ0_ok, KRJ0_ok, LRJ0_ok⟩
theorem nar_J0_indexOf_7cf53 : nargs pJ0_indexOf_7cf53 2 := by unfold nargs; decide +kernel
theorem vok_J0_indexOf_7cf53 : VOK pJ0_indexOf_7cf53 := ⟨(wsm_3 (i := 37) rfl rfl), (wsm_3 (i := 38) rfl rfl), (wsm_1 (i := 14) rfl rfl), by decide, by decide⟩
def pJ0_isLatin1_aae02 : AP := (yJ0_isLatin1_aae02, cJ0_isLatin1_aae02, 1, (some FieldType.boolean), FRJ0, KRJ0, LRJ0)
theorem okp_J0_isLatin1_aae02 : POK pJ0_isLatin1_aae02 := ⟨(wsm_2 (i := 226) rfl rfl), by decide +kernel, FRJ0_ok, KRJ0_ok, LRJ0_ok⟩
theorem nar_J0_isLatin1_aae02 : nargs pJ0_isLatin1_aae02 0 := by unfold nargs; decide +kernel
theorem vok_J0_isLatin1_aae02 : VOK pJ0_isLatin1_aae02 := ⟨(wsm_2 (i := 224) rfl rfl), (wsm_2 (i := 225) rfl rfl), (wsm_1 (i := 14) rfl rfl), by decide, by decide⟩
def pJ0_length_8abf5 : AP := (yJ0_length_8abf5, cJ0_length_8abf5, 1, (some FieldType.int), FRJ0, KRJ0, LRJ0)
theorem okp_J0_length_8abf5 : POK pJ0_length_8abf5 := ⟨(wsm_2 (i := 209) rfl rfl), by decide +kernel, FRJ0_ok, KRJ0_ok, LRJ0_ok⟩
theorem nar_J0_length_8abf5 : nargs pJ0_length_8abf5 0 := by unfold nargs; decide +kernel
theorem vok_J0_length_8abf5 : VOK pJ0_length_8abf5 := ⟨(wsm_2 (i := 207) rfl rfl), (wsm_2 (i := 208) rfl rfl), (wsm_1 (i := 14) rfl rfl), by decide, by decide⟩
def pJ1_canEncode_9a6ad : AP := (yJ1_canEncode_9a6ad, cJ1_canEncode_9a6ad, 1, (some FieldType.boolean), FRJ1, KRJ1, LRJ1)
theorem okp_J1_canEncode_9a6ad : POK pJ1_canEncode_9a6ad := ⟨(wsm_3 (i := 46) rfl rfl), by decide +kernel, FRJ1_ok, KRJ1_ok, LRJ1_ok⟩
theorem nar_J1_canEncode_9a6ad : nargs pJ1_canEncode_9a6ad 1 := by unfold nargs; decide +kernel
theorem tok_J1_canEncode_9a6ad : TOK pJ1_canEncode_9a6ad := ⟨(wsm_3 (i := 45) rfl rfl), (wsm_1 (i := 15) rfl rfl), by decide, by decide⟩
def pJ1_charAt_3b067 : AP := (yJ1_charAt_3b067, cJ1_charAt_3b067, 2, (some FieldType.char), FRJ1, KRJ1, LRJ1)
theorem okp_J1_charAt_3b067 : POK pJ1_charAt_3b067 := ⟨(wsm_2 (i := 229) rfl rfl), by decide +kernel, FRJ1_ok, KRJ1_ok, LRJ1_ok⟩
theorem nar_J1_charAt_3b067 : nargs pJ1_charAt_3b067 2 := by unfold nargs; decide +kernel
theorem tok_J1_charAt_3b067 : TOK pJ1_charAt_3b067 := ⟨(wsm_2 (i := 228) rfl rfl), (wsm_1 (i := 15) rfl rfl), by decide, by decide⟩
def pJ1_indexOf_4cfef : AP := (yJ1_indexOf_4cfef, cJ1_indexOf_4cfef, 4, (some FieldType.int), FRJ1, KRJ1, LRJ1)
theorem okp_J1_indexOf_4cfef : POK pJ1_indexOf_4cfef := ⟨(wsm_3 (i := 43) rfl rfl), by decide +kernel, FRJ1_ok, KRJ1_ok, LRJ1_ok⟩
theorem nar_J1_indexOf_4cfef : nargs pJ1_indexOf_4cfef 4 := by unfold nargs; decide +kernel
theorem tok_J1_indexOf_4cfef : TOK pJ1_indexOf_4cfef := ⟨(wsm_3 (i := 42) rfl rfl), (wsm_1 (i := 15) rfl rfl), by decide, by decide⟩
def pJ1_indexOfChar_4cfef : AP := (yJ1_indexOfChar_4cfef, cJ1_indexOfChar_4cfef, 6, (some FieldType.int), FRJ1, KRJ1, LRJ1)
theorem okp_J1_indexOfChar_4cfef : POK pJ1_indexOfChar_4cfef := ⟨(wsm_3 (i := 53) rfl rfl), by decide +kernel, FRJ1_ok, KRJ1_ok, LRJ1_ok⟩
theorem nar_J1_indexOfChar_4cfef : nargs pJ1_indexOfChar_4cfef 4 := by unfold nargs; decide +kernel
theorem tok_J1_indexOfChar_4cfef : TOK pJ1_indexOfChar_4cfef := ⟨(wsm_3 (i := 52) rfl rfl), (wsm_1 (i := 15) rfl rfl), by decide, by decide⟩
def pJ3_checkIndex_8e157 : AP := (yJ3_checkIndex_8e157, cJ3_checkIndex_8e157, 3, (some FieldType.int), FRJ3, KRJ3, LRJ3)
theorem okp_J3_checkIndex_8e157 : POK pJ3_checkIndex_8e157 := ⟨(wsm_2 (i := 237) rfl rfl), by decide +kernel, FRJ3_ok, KRJ3_ok, LRJ3_ok⟩
theorem nar_J3_checkIndex_8e157 : nargs pJ3_checkIndex_8e157 3 := by unfold nargs; decide +kernel
theorem tok_J3_checkIndex_8e157 : TOK pJ3_checkIndex_8e157 := ⟨(wsm_2 (i := 236) rfl rfl), (wsm_1 (i := 16) rfl rfl), by decide, by decide⟩
theorem ml_RJ0_335 : Cond.methodLink RJ0 335 yJ0_coder_7d493 ∈ WS := (wsm_2 (i := 210) rfl rfl)
theorem ml_RJ0_492 : Cond.methodLink RJ0 492 yJ0_isLatin1_aae02 ∈ WS := (wsm_2 (i := 223) rfl rfl)
theorem ml_RJ0_495 : Cond.methodLink RJ0 495 yJ1_charAt_3b067 ∈ WS := (wsm_2 (i := 227) rfl rfl)
theorem ml_RJ0_505 : Cond.methodLink RJ0 505 yJ0_length_8abf5 ∈ WS := (wsm_3 (i := 40) rfl rfl)
theorem ml_RJ0_633 : Cond.methodLink RJ0 633 yJ0_indexOf_7cf53 ∈ WS := (wsm_3 (i := 36) rfl rfl)
theorem ml_RJ0_637 : Cond.methodLink RJ0 637 yJ1_indexOf_4cfef ∈ WS := (wsm_3 (i := 41) rfl rfl)
theorem ml_RJ0_1059 : Cond.methodLink RJ0 1059 yJ3_checkIndex_8e157 ∈ WS := (wsm_2 (i := 235) rfl rfl)
theorem ml_RJ0_1062 : Cond.methodLink RJ0 1062 yJ3_checkFromToIndex_8c36e ∈ WS := (wsm_3 (i := 69) rfl rfl)
theorem ml_RJ1_9 : Cond.methodLink RJ1 9 yJ0_checkIndex_df160 ∈ WS := (wsm_2 (i := 230) rfl rfl)
theorem ml_RJ1_38 : Cond.methodLink RJ1 38 Lib.Math.min.name ∈ WS := (wsm_3 (i := 50) rfl rfl)
theorem ml_RJ1_88 : Cond.methodLink RJ1 88 yJ1_canEncode_9a6ad ∈ WS := (wsm_3 (i := 44) rfl rfl)
theorem ml_RJ1_92 : Cond.methodLink RJ1 92 Lib.Math.max.name ∈ WS := (wsm_3 (i := 47) rfl rfl)
theorem ml_RJ1_95 : Cond.methodLink RJ1 95 yJ1_indexOfChar_4cfef ∈ WS := (wsm_3 (i := 51) rfl rfl)
theorem ml_RX0_24 : Cond.methodLink RX0 24 yX8_mayGive ∈ WS := (wsm_5 (i := 114) rfl rfl)
theorem ml_RX0_30 : Cond.methodLink RX0 30 yX8_housesBy ∈ WS := (wsm_5 (i := 115) rfl rfl)
theorem ml_RX0_49 : Cond.methodLink RX0 49 yX0_choose ∈ WS := (wsm_5 (i := 116) rfl rfl)
theorem ml_RX0_53 : Cond.methodLink RX0 53 yJ6_bitCount_0f7a4 ∈ WS := (wsm_5 (i := 120) rfl rfl)
theorem ml_RX0_59 : Cond.methodLink RX0 59 yX0_chooseFor ∈ WS := (wsm_5 (i := 121) rfl rfl)
theorem ml_RX1_15 : Cond.methodLink RX1 15 yX8_draw ∈ WS := (wsm_4 (i := 150) rfl rfl)
theorem ml_RX1_25 : Cond.methodLink RX1 25 yX8_housesBy ∈ WS := (wsm_4 (i := 68) rfl rfl)
theorem ml_RX1_32 : Cond.methodLink RX1 32 yX8_set ∈ WS := (wsm_4 (i := 158) rfl rfl)
theorem ml_RX1_36 : Cond.methodLink RX1 36 yX8_note ∈ WS := (wsm_4 (i := 137) rfl rfl)
theorem ml_RX1_40 : Cond.methodLink RX1 40 yX5_near ∈ WS := (wsm_4 (i := 72) rfl rfl)
theorem ml_RX1_45 : Cond.methodLink RX1 45 yX1_catches ∈ WS := (wsm_4 (i := 159) rfl rfl)
theorem ml_RX1_52 : Cond.methodLink RX1 52 yX8_keeps ∈ WS := (wsm_4 (i := 163) rfl rfl)
theorem ml_RX1_61 : Cond.methodLink RX1 61 yX1_rate ∈ WS := (wsm_4 (i := 82) rfl rfl)
theorem ml_RX1_65 : Cond.methodLink RX1 65 Lib.Math.max.name ∈ WS := (wsm_4 (i := 136) rfl rfl)
theorem ml_RX1_73 : Cond.methodLink RX1 73 yX8_bell ∈ WS := (wsm_4 (i := 64) rfl rfl)
theorem ml_RX1_80 : Cond.methodLink RX1 80 Lib.Math.min.name ∈ WS := (wsm_4 (i := 135) rfl rfl)
theorem ml_RX1_83 : Cond.methodLink RX1 83 yX6_firstSign ∈ WS := (wsm_4 (i := 86) rfl rfl)
theorem ml_RX1_89 : Cond.methodLink RX1 89 yX1_without ∈ WS := (wsm_4 (i := 90) rfl rfl)
theorem ml_RX1_93 : Cond.methodLink RX1 93 yX1_value ∈ WS := (wsm_4 (i := 93) rfl rfl)
theorem ml_RX1_102 : Cond.methodLink RX1 102 yX6_behindSigns ∈ WS := (wsm_4 (i := 97) rfl rfl)
theorem ml_RX1_105 : Cond.methodLink RX1 105 yX6_sign ∈ WS := (wsm_4 (i := 101) rfl rfl)
theorem ml_RX1_108 : Cond.methodLink RX1 108 yX6_argument ∈ WS := (wsm_4 (i := 105) rfl rfl)
theorem ml_RX1_111 : Cond.methodLink RX1 111 yX1_push ∈ WS := (wsm_4 (i := 109) rfl rfl)
theorem ml_RX1_115 : Cond.methodLink RX1 115 yX1_pop ∈ WS := (wsm_4 (i := 113) rfl rfl)
theorem ml_RX1_118 : Cond.methodLink RX1 118 yX1_named ∈ WS := (wsm_4 (i := 117) rfl rfl)
theorem ml_RX1_121 : Cond.methodLink RX1 121 yX1_ofOne ∈ WS := (wsm_4 (i := 120) rfl rfl)
theorem ml_RX1_125 : Cond.methodLink RX1 125 yX1_ofTwo ∈ WS := (wsm_4 (i := 124) rfl rfl)
theorem ml_RX1_129 : Cond.methodLink RX1 129 yX8_told ∈ WS := (wsm_4 (i := 123) rfl rfl)
theorem ml_RX1_136 : Cond.methodLink RX1 136 Lib.MathLoose.min_long.x ∈ WS := (wsm_4 (i := 129) rfl rfl)
theorem ml_RX1_139 : Cond.methodLink RX1 139 Lib.MathLoose.max_long.x ∈ WS := (wsm_4 (i := 132) rfl rfl)
theorem ml_RX10_65 : Cond.methodLink RX10 65 yX8_copyFrom ∈ WS := (wsm_6 (i := 4) rfl rfl)
theorem ml_RX10_69 : Cond.methodLink RX10 69 yX5_copyFrom ∈ WS := (wsm_6 (i := 5) rfl rfl)
theorem ml_RX10_72 : Cond.methodLink RX10 72 yX4_copyFrom ∈ WS := (wsm_6 (i := 10) rfl rfl)
theorem ml_RX10_94 : Cond.methodLink RX10 94 yX10_textOf ∈ WS := (wsm_4 (i := 55) rfl rfl)
theorem ml_RX11_71 : Cond.methodLink RX11 71 yX8_settle ∈ WS := (wsm_2 (i := 140) rfl rfl)
theorem ml_RX11_75 : Cond.methodLink RX11 75 yX8_told ∈ WS := (wsm_2 (i := 151) rfl rfl)
theorem ml_RX11_79 : Cond.methodLink RX11 79 yX11_within ∈ WS := (wsm_2 (i := 155) rfl rfl)
theorem ml_RX11_87 : Cond.methodLink RX11 87 yX5_lay ∈ WS := (wsm_2 (i := 156) rfl rfl)
theorem ml_RX11_97 : Cond.methodLink RX11 97 yX11_putFour ∈ WS := (wsm_2 (i := 164) rfl rfl)
theorem ml_RX11_104 : Cond.methodLink RX11 104 yX3_read ∈ WS := (wsm_2 (i := 176) rfl rfl)
theorem ml_RX11_108 : Cond.methodLink RX11 108 yX10_shelve ∈ WS := (wsm_3 (i := 217) rfl rfl)
theorem ml_RX11_127 : Cond.methodLink RX11 127 yX11_tried ∈ WS := (wsm_3 (i := 233) rfl rfl)
theorem ml_RX11_137 : Cond.methodLink RX11 137 yX4_keep ∈ WS := (wsm_4 (i := 10) rfl rfl)
theorem ml_RX11_143 : Cond.methodLink RX11 143 yX10_rule ∈ WS := (wsm_4 (i := 51) rfl rfl)
theorem ml_RX11_147 : Cond.methodLink RX11 147 yX1_visit ∈ WS := (wsm_4 (i := 60) rfl rfl)
theorem ml_RX11_154 : Cond.methodLink RX11 154 yX11_passHours ∈ WS := (wsm_4 (i := 142) rfl rfl)
theorem ml_RX11_158 : Cond.methodLink RX11 158 yX10_textOf ∈ WS := (wsm_4 (i := 168) rfl rfl)
theorem ml_RX11_162 : Cond.methodLink RX11 162 yX6_clauseCount ∈ WS := (wsm_4 (i := 169) rfl rfl)
theorem ml_RX11_168 : Cond.methodLink RX11 168 yX6_kind ∈ WS := (wsm_4 (i := 173) rfl rfl)
theorem ml_RX11_171 : Cond.methodLink RX11 171 yX6_number ∈ WS := (wsm_4 (i := 177) rfl rfl)
theorem ml_RX11_174 : Cond.methodLink RX11 174 yX11_carriedOut ∈ WS := (wsm_4 (i := 181) rfl rfl)
theorem ml_RX11_181 : Cond.methodLink RX11 181 yX8_nextX ∈ WS := (wsm_4 (i := 192) rfl rfl)
theorem ml_RX11_184 : Cond.methodLink RX11 184 yX11_befallByDraw ∈ WS := (wsm_4 (i := 193) rfl rfl)
theorem ml_RX11_187 : Cond.methodLink RX11 187 yX4_takeBack ∈ WS := (wsm_4 (i := 204) rfl rfl)
theorem ml_RX11_203 : Cond.methodLink RX11 203 yX11_rateNow ∈ WS := (wsm_4 (i := 218) rfl rfl)
theorem ml_RX11_206 : Cond.methodLink RX11 206 yX8_housesBy ∈ WS := (wsm_4 (i := 226) rfl rfl)
theorem ml_RX11_209 : Cond.methodLink RX11 209 yX5_near ∈ WS := (wsm_4 (i := 227) rfl rfl)
theorem ml_RX11_212 : Cond.methodLink RX11 212 yX8_bell ∈ WS := (wsm_4 (i := 232) rfl rfl)
theorem ml_RX11_225 : Cond.methodLink RX11 225 yX8_hourOf ∈ WS := (wsm_4 (i := 237) rfl rfl)
theorem ml_RX11_228 : Cond.methodLink RX11 228 yX8_houseOf ∈ WS := (wsm_5 (i := 0) rfl rfl)
theorem ml_RX11_231 : Cond.methodLink RX11 231 yX8_whatOf ∈ WS := (wsm_5 (i := 3) rfl rfl)
theorem ml_RX11_234 : Cond.methodLink RX11 234 yX8_copyFrom ∈ WS := (wsm_5 (i := 10) rfl rfl)
theorem ml_RX11_237 : Cond.methodLink RX11 237 yX1_pass ∈ WS := (wsm_4 (i := 146) rfl rfl)
theorem ml_RX11_241 : Cond.methodLink RX11 241 yJ6_bitCount_0f7a4 ∈ WS := (wsm_5 (i := 14) rfl rfl)
theorem ml_RX11_246 : Cond.methodLink RX11 246 yX9_measure ∈ WS := (wsm_5 (i := 23) rfl rfl)
theorem ml_RX11_250 : Cond.methodLink RX11 250 yX9_between ∈ WS := (wsm_5 (i := 33) rfl rfl)
theorem ml_RX11_254 : Cond.methodLink RX11 254 yX9_walk ∈ WS := (wsm_5 (i := 42) rfl rfl)
theorem ml_RX11_258 : Cond.methodLink RX11 258 yX5_odd ∈ WS := (wsm_5 (i := 88) rfl rfl)
theorem ml_RX11_261 : Cond.methodLink RX11 261 yX5_hangTogether ∈ WS := (wsm_5 (i := 93) rfl rfl)
theorem ml_RX11_264 : Cond.methodLink RX11 264 yX9_partner ∈ WS := (wsm_5 (i := 94) rfl rfl)
theorem ml_RX11_271 : Cond.methodLink RX11 271 yX0_settle ∈ WS := (wsm_5 (i := 110) rfl rfl)
theorem ml_RX11_280 : Cond.methodLink RX11 280 yX8_mayGive ∈ WS := (wsm_5 (i := 130) rfl rfl)
theorem ml_RX11_283 : Cond.methodLink RX11 283 yX5_besideAll ∈ WS := (wsm_5 (i := 131) rfl rfl)
theorem ml_RX11_286 : Cond.methodLink RX11 286 yX11_stoneSet ∈ WS := (wsm_5 (i := 136) rfl rfl)
theorem ml_RX11_289 : Cond.methodLink RX11 289 yX8_all ∈ WS := (wsm_5 (i := 140) rfl rfl)
theorem ml_RX11_292 : Cond.methodLink RX11 292 yX5_greatest ∈ WS := (wsm_5 (i := 144) rfl rfl)
theorem ml_RX11_308 : Cond.methodLink RX11 308 yX2_hoursFrom ∈ WS := (wsm_5 (i := 157) rfl rfl)
theorem ml_RX11_313 : Cond.methodLink RX11 313 yX2_gather ∈ WS := (wsm_5 (i := 172) rfl rfl)
theorem ml_RX11_317 : Cond.methodLink RX11 317 yX2_unlike ∈ WS := (wsm_5 (i := 181) rfl rfl)
theorem ml_RX11_323 : Cond.methodLink RX11 323 yX11_highestBidder ∈ WS := (wsm_5 (i := 199) rfl rfl)
theorem ml_RX11_335 : Cond.methodLink RX11 335 yX11_coolsAsTold ∈ WS := (wsm_5 (i := 211) rfl rfl)
theorem ml_RX11_339 : Cond.methodLink RX11 339 yX5_groups ∈ WS := (wsm_5 (i := 223) rfl rfl)
theorem ml_RX11_345 : Cond.methodLink RX11 345 yX10_copyFrom ∈ WS := (wsm_6 (i := 0) rfl rfl)
theorem ml_RX11_348 : Cond.methodLink RX11 348 yX8_can ∈ WS := (wsm_3 (i := 237) rfl rfl)
theorem ml_RX11_352 : Cond.methodLink RX11 352 yX8_act ∈ WS := (wsm_4 (i := 19) rfl rfl)
theorem ml_RX11_355 : Cond.methodLink RX11 355 yX11_house ∈ WS := (wsm_4 (i := 185) rfl rfl)
theorem ml_RX11_358 : Cond.methodLink RX11 358 yX11_street ∈ WS := (wsm_4 (i := 186) rfl rfl)
theorem ml_RX11_361 : Cond.methodLink RX11 361 yX11_warden ∈ WS := (wsm_4 (i := 187) rfl rfl)
theorem ml_RX11_364 : Cond.methodLink RX11 364 yX11_actOfDraw ∈ WS := (wsm_4 (i := 197) rfl rfl)
theorem ml_RX11_367 : Cond.methodLink RX11 367 yX1_rateToday ∈ WS := (wsm_4 (i := 222) rfl rfl)
theorem ml_RX12_65 : Cond.methodLink RX12 65 yX12_copy ∈ WS := (wsm_6 (i := 30) rfl rfl)
theorem ml_RX12_69 : Cond.methodLink RX12 69 yX12_isIn ∈ WS := (wsm_6 (i := 134) rfl rfl)
theorem ml_RX12_73 : Cond.methodLink RX12 73 yX12_lengthOf ∈ WS := (wsm_7 (i := 137) rfl rfl)
theorem ml_RX12_77 : Cond.methodLink RX12 77 yX12_get ∈ WS := (wsm_6 (i := 145) rfl rfl)
theorem ml_RX12_80 : Cond.methodLink RX12 80 yX12_put ∈ WS := (wsm_6 (i := 137) rfl rfl)
theorem ml_RX12_84 : Cond.methodLink RX12 84 yX12_begin ∈ WS := (wsm_6 (i := 141) rfl rfl)
theorem ml_RX12_88 : Cond.methodLink RX12 88 yX12_isHouse ∈ WS := (wsm_6 (i := 153) rfl rfl)
theorem ml_RX12_95 : Cond.methodLink RX12 95 yX12_four ∈ WS := (wsm_6 (i := 161) rfl rfl)
theorem ml_RX12_101 : Cond.methodLink RX12 101 yX12_byteAt ∈ WS := (wsm_6 (i := 181) rfl rfl)
theorem ml_RX12_111 : Cond.methodLink RX12 111 yX12_isFigure ∈ WS := (wsm_6 (i := 185) rfl rfl)
theorem ml_RX12_118 : Cond.methodLink RX12 118 yX12_isLetterByte ∈ WS := (wsm_6 (i := 189) rfl rfl)
theorem ml_RX12_127 : Cond.methodLink RX12 127 yX12_isSign ∈ WS := (wsm_6 (i := 193) rfl rfl)
theorem ml_RX12_130 : Cond.methodLink RX12 130 yX12_w2 ∈ WS := (wsm_6 (i := 213) rfl rfl)
theorem ml_RX12_134 : Cond.methodLink RX12 134 yX12_w3 ∈ WS := (wsm_6 (i := 210) rfl rfl)
theorem ml_RX12_138 : Cond.methodLink RX12 138 yX12_w4 ∈ WS := (wsm_6 (i := 207) rfl rfl)
theorem ml_RX12_142 : Cond.methodLink RX12 142 yX12_w5 ∈ WS := (wsm_6 (i := 204) rfl rfl)
theorem ml_RX12_155 : Cond.methodLink RX12 155 yX12_rank ∈ WS := (wsm_7 (i := 34) rfl rfl)
theorem ml_RX12_158 : Cond.methodLink RX12 158 yX12_emit ∈ WS := (wsm_7 (i := 45) rfl rfl)
theorem ml_RX12_165 : Cond.methodLink RX12 165 yX12_openAt ∈ WS := (wsm_7 (i := 26) rfl rfl)
theorem ml_RX12_169 : Cond.methodLink RX12 169 yX12_openNow ∈ WS := (wsm_7 (i := 22) rfl rfl)
theorem ml_RX12_172 : Cond.methodLink RX12 172 yX12_waits ∈ WS := (wsm_7 (i := 49) rfl rfl)
theorem ml_RX12_175 : Cond.methodLink RX12 175 yX12_nextToken ∈ WS := (wsm_6 (i := 177) rfl rfl)
theorem ml_RX12_178 : Cond.methodLink RX12 178 yX12_nameOf ∈ WS := (wsm_7 (i := 61) rfl rfl)
theorem ml_RX12_187 : Cond.methodLink RX12 187 yX12_settle ∈ WS := (wsm_7 (i := 41) rfl rfl)
theorem ml_RX12_190 : Cond.methodLink RX12 190 yX12_opened ∈ WS := (wsm_7 (i := 65) rfl rfl)
theorem ml_RX12_193 : Cond.methodLink RX12 193 yX12_isWord ∈ WS := (wsm_6 (i := 216) rfl rfl)
theorem ml_RX12_197 : Cond.methodLink RX12 197 yX12_isAskAhead ∈ WS := (wsm_7 (i := 69) rfl rfl)
theorem ml_RX12_201 : Cond.methodLink RX12 201 yX12_isCompared ∈ WS := (wsm_7 (i := 30) rfl rfl)
theorem ml_RX12_204 : Cond.methodLink RX12 204 yX12_compareOf ∈ WS := (wsm_7 (i := 37) rfl rfl)
theorem ml_RX12_207 : Cond.methodLink RX12 207 yX12_betweenOf ∈ WS := (wsm_7 (i := 18) rfl rfl)
theorem ml_RX12_210 : Cond.methodLink RX12 210 yX12_partOf ∈ WS := (wsm_7 (i := 53) rfl rfl)
theorem ml_RX12_213 : Cond.methodLink RX12 213 yX12_behindOne ∈ WS := (wsm_7 (i := 14) rfl rfl)
theorem ml_RX12_216 : Cond.methodLink RX12 216 yX12_beginOne ∈ WS := (wsm_7 (i := 57) rfl rfl)
theorem ml_RX12_219 : Cond.methodLink RX12 219 yX12_figure ∈ WS := (wsm_6 (i := 238) rfl rfl)
theorem ml_RX12_223 : Cond.methodLink RX12 223 yX12_summed ∈ WS := (wsm_7 (i := 10) rfl rfl)
theorem ml_RX12_226 : Cond.methodLink RX12 226 yX12_worded ∈ WS := (wsm_7 (i := 2) rfl rfl)
theorem ml_RX12_230 : Cond.methodLink RX12 230 yX12_pair ∈ WS := (wsm_6 (i := 234) rfl rfl)
theorem ml_RX12_234 : Cond.methodLink RX12 234 yX12_lawClause ∈ WS := (wsm_7 (i := 6) rfl rfl)
theorem ml_RX12_237 : Cond.methodLink RX12 237 yX12_isSpreads ∈ WS := (wsm_6 (i := 220) rfl rfl)
theorem ml_RX12_240 : Cond.methodLink RX12 240 yX12_w6 ∈ WS := (wsm_6 (i := 224) rfl rfl)
theorem ml_RX12_244 : Cond.methodLink RX12 244 yX12_sortOf ∈ WS := (wsm_6 (i := 200) rfl rfl)
theorem ml_RX12_250 : Cond.methodLink RX12 250 yX12_has ∈ WS := (wsm_6 (i := 227) rfl rfl)
theorem ml_RX12_254 : Cond.methodLink RX12 254 yX12_body ∈ WS := (wsm_6 (i := 230) rfl rfl)
theorem ml_RX12_257 : Cond.methodLink RX12 257 yX12_clause ∈ WS := (wsm_6 (i := 196) rfl rfl)
theorem ml_RX12_260 : Cond.methodLink RX12 260 yX12_readText ∈ WS := (wsm_6 (i := 173) rfl rfl)
theorem ml_RX12_267 : Cond.methodLink RX12 267 yX12_clip ∈ WS := (wsm_7 (i := 195) rfl rfl)
theorem ml_RX12_271 : Cond.methodLink RX12 271 yX12_warmOf ∈ WS := (wsm_7 (i := 188) rfl rfl)
theorem ml_RX12_274 : Cond.methodLink RX12 274 yX12_two ∈ WS := (wsm_7 (i := 192) rfl rfl)
theorem ml_RX12_280 : Cond.methodLink RX12 280 yX12_isAsked ∈ WS := (wsm_7 (i := 201) rfl rfl)
theorem ml_RX12_284 : Cond.methodLink RX12 284 yX12_joined ∈ WS := (wsm_7 (i := 204) rfl rfl)
theorem ml_RX12_288 : Cond.methodLink RX12 288 yX12_summedUp ∈ WS := (wsm_7 (i := 184) rfl rfl)
theorem ml_RX12_291 : Cond.methodLink RX12 291 yX12_cut ∈ WS := (wsm_7 (i := 207) rfl rfl)
theorem ml_RX12_294 : Cond.methodLink RX12 294 yX12_beside ∈ WS := (wsm_7 (i := 173) rfl rfl)
theorem ml_RX12_300 : Cond.methodLink RX12 300 yX12_bits ∈ WS := (wsm_7 (i := 177) rfl rfl)
theorem ml_RX12_303 : Cond.methodLink RX12 303 yX12_isBell ∈ WS := (wsm_7 (i := 153) rfl rfl)
theorem ml_RX12_306 : Cond.methodLink RX12 306 yX12_nearOf ∈ WS := (wsm_7 (i := 169) rfl rfl)
theorem ml_RX12_309 : Cond.methodLink RX12 309 yX12_name ∈ WS := (wsm_7 (i := 165) rfl rfl)
theorem ml_RX12_312 : Cond.methodLink RX12 312 yX12_says ∈ WS := (wsm_7 (i := 180) rfl rfl)
theorem ml_RX12_316 : Cond.methodLink RX12 316 yX12_anew ∈ WS := (wsm_7 (i := 226) rfl rfl)
theorem ml_RX12_325 : Cond.methodLink RX12 325 yX12_coolsOf ∈ WS := (wsm_8 (i := 1) rfl rfl)
theorem ml_RX12_328 : Cond.methodLink RX12 328 yX12_write ∈ WS := (wsm_7 (i := 101) rfl rfl)
theorem ml_RX12_331 : Cond.methodLink RX12 331 yX12_isAlight ∈ WS := (wsm_7 (i := 133) rfl rfl)
theorem ml_RX12_334 : Cond.methodLink RX12 334 yX12_cool ∈ WS := (wsm_7 (i := 237) rfl rfl)
theorem ml_RX12_337 : Cond.methodLink RX12 337 yX12_spreadsOf ∈ WS := (wsm_8 (i := 5) rfl rfl)
theorem ml_RX12_340 : Cond.methodLink RX12 340 yX12_drawn ∈ WS := (wsm_7 (i := 222) rfl rfl)
theorem ml_RX12_346 : Cond.methodLink RX12 346 yX12_allOf ∈ WS := (wsm_7 (i := 157) rfl rfl)
theorem ml_RX12_349 : Cond.methodLink RX12 349 yX12_live ∈ WS := (wsm_7 (i := 233) rfl rfl)
theorem ml_RX12_352 : Cond.methodLink RX12 352 yX12_isSo ∈ WS := (wsm_7 (i := 89) rfl rfl)
theorem ml_RX12_355 : Cond.methodLink RX12 355 yX12_keep ∈ WS := (wsm_7 (i := 93) rfl rfl)
theorem ml_RX12_358 : Cond.methodLink RX12 358 yX12_lightNow ∈ WS := (wsm_7 (i := 97) rfl rfl)
theorem ml_RX12_361 : Cond.methodLink RX12 361 yX12_turned ∈ WS := (wsm_7 (i := 109) rfl rfl)
theorem ml_RX12_364 : Cond.methodLink RX12 364 yX12_isGiver ∈ WS := (wsm_7 (i := 129) rfl rfl)
theorem ml_RX12_367 : Cond.methodLink RX12 367 yX12_canFetch ∈ WS := (wsm_7 (i := 125) rfl rfl)
theorem ml_RX12_370 : Cond.methodLink RX12 370 yX12_fetchNow ∈ WS := (wsm_7 (i := 141) rfl rfl)
theorem ml_RX12_373 : Cond.methodLink RX12 373 yX12_fineOf ∈ WS := (wsm_7 (i := 161) rfl rfl)
theorem ml_RX12_376 : Cond.methodLink RX12 376 yX12_wardenNow ∈ WS := (wsm_7 (i := 149) rfl rfl)
theorem ml_RX12_379 : Cond.methodLink RX12 379 yX12_pass ∈ WS := (wsm_7 (i := 218) rfl rfl)
theorem ml_RX12_382 : Cond.methodLink RX12 382 yX12_arePassed ∈ WS := (wsm_7 (i := 214) rfl rfl)
theorem ml_RX12_385 : Cond.methodLink RX12 385 yX12_house ∈ WS := (wsm_8 (i := 17) rfl rfl)
theorem ml_RX12_388 : Cond.methodLink RX12 388 yX12_street ∈ WS := (wsm_8 (i := 18) rfl rfl)
theorem ml_RX12_391 : Cond.methodLink RX12 391 yX12_light ∈ WS := (wsm_8 (i := 19) rfl rfl)
theorem ml_RX12_394 : Cond.methodLink RX12 394 yX12_cover ∈ WS := (wsm_8 (i := 20) rfl rfl)
theorem ml_RX12_397 : Cond.methodLink RX12 397 yX12_open ∈ WS := (wsm_8 (i := 21) rfl rfl)
theorem ml_RX12_400 : Cond.methodLink RX12 400 yX12_fetch ∈ WS := (wsm_8 (i := 22) rfl rfl)
theorem ml_RX12_403 : Cond.methodLink RX12 403 yX12_quench ∈ WS := (wsm_8 (i := 23) rfl rfl)
theorem ml_RX12_406 : Cond.methodLink RX12 406 yX12_warden ∈ WS := (wsm_8 (i := 24) rfl rfl)
theorem ml_RX12_409 : Cond.methodLink RX12 409 yX12_isPlayed ∈ WS := (wsm_8 (i := 13) rfl rfl)
theorem ml_RX12_412 : Cond.methodLink RX12 412 yX12_happens ∈ WS := (wsm_8 (i := 29) rfl rfl)
theorem ml_RX12_415 : Cond.methodLink RX12 415 yX12_entry ∈ WS := (wsm_8 (i := 45) rfl rfl)
theorem ml_RX12_418 : Cond.methodLink RX12 418 yX12_all ∈ WS := (wsm_8 (i := 69) rfl rfl)
theorem ml_RX12_421 : Cond.methodLink RX12 421 yX12_heapOf ∈ WS := (wsm_8 (i := 73) rfl rfl)
theorem ml_RX12_424 : Cond.methodLink RX12 424 yX12_setAside ∈ WS := (wsm_8 (i := 81) rfl rfl)
theorem ml_RX12_427 : Cond.methodLink RX12 427 yX12_putBack ∈ WS := (wsm_8 (i := 85) rfl rfl)
theorem ml_RX12_431 : Cond.methodLink RX12 431 yX12_layFars ∈ WS := (wsm_8 (i := 97) rfl rfl)
theorem ml_RX12_434 : Cond.methodLink RX12 434 yX12_lowOf ∈ WS := (wsm_8 (i := 114) rfl rfl)
theorem ml_RX12_437 : Cond.methodLink RX12 437 yX12_least ∈ WS := (wsm_8 (i := 121) rfl rfl)
theorem ml_RX12_440 : Cond.methodLink RX12 440 yX12_odd ∈ WS := (wsm_8 (i := 106) rfl rfl)
theorem ml_RX12_443 : Cond.methodLink RX12 443 yX12_isJoined ∈ WS := (wsm_8 (i := 110) rfl rfl)
theorem ml_RX12_446 : Cond.methodLink RX12 446 yX12_layPairs ∈ WS := (wsm_8 (i := 117) rfl rfl)
theorem ml_RX12_449 : Cond.methodLink RX12 449 yX12_givenOf ∈ WS := (wsm_8 (i := 140) rfl rfl)
theorem ml_RX12_452 : Cond.methodLink RX12 452 yX12_giverOf ∈ WS := (wsm_8 (i := 144) rfl rfl)
theorem ml_RX12_455 : Cond.methodLink RX12 455 yX12_largest ∈ WS := (wsm_8 (i := 156) rfl rfl)
theorem ml_RX12_458 : Cond.methodLink RX12 458 yX12_isBegun ∈ WS := (wsm_8 (i := 176) rfl rfl)
theorem ml_RX12_461 : Cond.methodLink RX12 461 yX12_layHops ∈ WS := (wsm_8 (i := 168) rfl rfl)
theorem ml_RX12_464 : Cond.methodLink RX12 464 yX12_hoursOf ∈ WS := (wsm_8 (i := 172) rfl rfl)
theorem ml_RX12_467 : Cond.methodLink RX12 467 yX12_answers ∈ WS := (wsm_8 (i := 184) rfl rfl)
theorem ml_RX12_470 : Cond.methodLink RX12 470 yX12_ahead ∈ WS := (wsm_8 (i := 196) rfl rfl)
theorem ml_RX2_18 : Cond.methodLink RX2 18 yX2_narrow ∈ WS := (wsm_5 (i := 161) rfl rfl)
theorem ml_RX2_29 : Cond.methodLink RX2 29 Lib.Math.max.name ∈ WS := (wsm_5 (i := 166) rfl rfl)
theorem ml_RX2_44 : Cond.methodLink RX2 44 yX9_between ∈ WS := (wsm_5 (i := 165) rfl rfl)
theorem ml_RX2_56 : Cond.methodLink RX2 56 Lib.Math.min.name ∈ WS := (wsm_5 (i := 167) rfl rfl)
theorem ml_RX2_68 : Cond.methodLink RX2 68 yX2_markAll ∈ WS := (wsm_5 (i := 176) rfl rfl)
theorem ml_RX2_73 : Cond.methodLink RX2 73 yJ13_bitCount_95d88 ∈ WS := (wsm_5 (i := 185) rfl rfl)
theorem ml_RX3_36 : Cond.methodLink RX3 36 yX3_begin ∈ WS := (wsm_2 (i := 180) rfl rfl)
theorem ml_RX3_39 : Cond.methodLink RX3 39 yX7_cut ∈ WS := (wsm_2 (i := 184) rfl rfl)
theorem ml_RX3_47 : Cond.methodLink RX3 47 yX7_kind ∈ WS := (wsm_3 (i := 89) rfl rfl)
theorem ml_RX3_51 : Cond.methodLink RX3 51 yX3_clause ∈ WS := (wsm_3 (i := 93) rfl rfl)
theorem ml_RX3_74 : Cond.methodLink RX3 74 yX6_init ∈ WS := (wsm_3 (i := 196) rfl rfl)
theorem ml_RX3_84 : Cond.methodLink RX3 84 yX7_place ∈ WS := (wsm_3 (i := 101) rfl rfl)
theorem ml_RX3_86 : Cond.methodLink RX3 86 yX7_last ∈ WS := (wsm_3 (i := 105) rfl rfl)
theorem ml_RX3_90 : Cond.methodLink RX3 90 yX3_fail ∈ WS := (wsm_3 (i := 97) rfl rfl)
theorem ml_RX3_94 : Cond.methodLink RX3 94 yX7_number ∈ WS := (wsm_3 (i := 125) rfl rfl)
theorem ml_RX3_104 : Cond.methodLink RX3 104 yX3_sum ∈ WS := (wsm_3 (i := 109) rfl rfl)
theorem ml_RX3_107 : Cond.methodLink RX3 107 yX3_addClause ∈ WS := (wsm_3 (i := 170) rfl rfl)
theorem ml_RX3_111 : Cond.methodLink RX3 111 yX3_readAct ∈ WS := (wsm_3 (i := 174) rfl rfl)
theorem ml_RX3_114 : Cond.methodLink RX3 114 yX3_take ∈ WS := (wsm_3 (i := 142) rfl rfl)
theorem ml_RX3_117 : Cond.methodLink RX3 117 yX3_takeNumber ∈ WS := (wsm_3 (i := 121) rfl rfl)
theorem ml_RX3_121 : Cond.methodLink RX3 121 yX3_product ∈ WS := (wsm_3 (i := 113) rfl rfl)
theorem ml_RX3_124 : Cond.methodLink RX3 124 yX3_emit ∈ WS := (wsm_3 (i := 130) rfl rfl)
theorem ml_RX3_127 : Cond.methodLink RX3 127 yX3_one ∈ WS := (wsm_3 (i := 117) rfl rfl)
theorem ml_RX3_130 : Cond.methodLink RX3 130 yX3_name ∈ WS := (wsm_3 (i := 134) rfl rfl)
theorem ml_RX3_133 : Cond.methodLink RX3 133 yX3_around ∈ WS := (wsm_3 (i := 138) rfl rfl)
theorem ml_RX3_137 : Cond.methodLink RX3 137 yX3_choice ∈ WS := (wsm_3 (i := 146) rfl rfl)
theorem ml_RX3_140 : Cond.methodLink RX3 140 yX3_either ∈ WS := (wsm_3 (i := 150) rfl rfl)
theorem ml_RX3_143 : Cond.methodLink RX3 143 yX3_leadHere ∈ WS := (wsm_3 (i := 166) rfl rfl)
theorem ml_RX3_146 : Cond.methodLink RX3 146 yX3_both ∈ WS := (wsm_3 (i := 154) rfl rfl)
theorem ml_RX3_149 : Cond.methodLink RX3 149 yX3_ask ∈ WS := (wsm_3 (i := 158) rfl rfl)
theorem ml_RX3_152 : Cond.methodLink RX3 152 yX3_deny ∈ WS := (wsm_3 (i := 162) rfl rfl)
theorem ml_RX4_28 : Cond.methodLink RX4 28 yX8_store ∈ WS := (wsm_4 (i := 14) rfl rfl)
theorem ml_RX4_32 : Cond.methodLink RX4 32 yX8_restore ∈ WS := (wsm_4 (i := 208) rfl rfl)
theorem ml_RX5_24 : Cond.methodLink RX5 24 yJ6_bitCount_0f7a4 ∈ WS := (wsm_4 (i := 76) rfl rfl)
theorem ml_RX5_30 : Cond.methodLink RX5 30 yX5_besideAll ∈ WS := (wsm_5 (i := 58) rfl rfl)
theorem ml_RX5_33 : Cond.methodLink RX5 33 yX5_group ∈ WS := (wsm_5 (i := 54) rfl rfl)
theorem ml_RX5_36 : Cond.methodLink RX5 36 Lib.Math.max.name ∈ WS := (wsm_5 (i := 148) rfl rfl)
theorem ml_RX5_42 : Cond.methodLink RX5 42 yX5_groups ∈ WS := (wsm_5 (i := 50) rfl rfl)
theorem ml_RX7_25 : Cond.methodLink RX7 25 Lib.Math.min.name ∈ WS := (wsm_2 (i := 188) rfl rfl)
theorem ml_RX7_31 : Cond.methodLink RX7 31 yX7_cutOne ∈ WS := (wsm_2 (i := 191) rfl rfl)
theorem ml_RX7_35 : Cond.methodLink RX7 35 yX7_add ∈ WS := (wsm_3 (i := 21) rfl rfl)
theorem ml_RX7_39 : Cond.methodLink RX7 39 yX7_isLetter ∈ WS := (wsm_2 (i := 195) rfl rfl)
theorem ml_RX7_43 : Cond.methodLink RX7 43 yX7_wordAt ∈ WS := (wsm_2 (i := 199) rfl rfl)
theorem ml_RX7_46 : Cond.methodLink RX7 46 yX7_isDigit ∈ WS := (wsm_3 (i := 25) rfl rfl)
theorem ml_RX7_49 : Cond.methodLink RX7 49 yX7_signOf ∈ WS := (wsm_3 (i := 28) rfl rfl)
theorem ml_RX7_59 : Cond.methodLink RX7 59 yJ0_indexOf_0f7a4 ∈ WS := (wsm_3 (i := 32) rfl rfl)
theorem ml_RX7_66 : Cond.methodLink RX7 66 yX7_wordIn ∈ WS := (wsm_2 (i := 203) rfl rfl)
theorem ml_RX7_78 : Cond.methodLink RX7 78 yJ0_length_8abf5 ∈ WS := (wsm_2 (i := 206) rfl rfl)
theorem ml_RX7_82 : Cond.methodLink RX7 82 yX7_isWord ∈ WS := (wsm_2 (i := 216) rfl rfl)
theorem ml_RX7_86 : Cond.methodLink RX7 86 yJ0_charAt_5068e ∈ WS := (wsm_2 (i := 219) rfl rfl)
theorem ml_RX8_49 : Cond.methodLink RX8 49 Lib.Math.min.name ∈ WS := (wsm_4 (i := 212) rfl rfl)
theorem ml_RX8_55 : Cond.methodLink RX8 55 Lib.Math.max.name ∈ WS := (wsm_4 (i := 213) rfl rfl)
theorem ml_RX8_62 : Cond.methodLink RX8 62 yX8_nextX ∈ WS := (wsm_4 (i := 154) rfl rfl)
theorem ml_RX8_66 : Cond.methodLink RX8 66 yX8_keeps ∈ WS := (wsm_4 (i := 6) rfl rfl)
theorem ml_RX8_70 : Cond.methodLink RX8 70 yX8_told ∈ WS := (wsm_4 (i := 1) rfl rfl)
theorem ml_RX8_78 : Cond.methodLink RX8 78 yX8_mayGive ∈ WS := (wsm_4 (i := 2) rfl rfl)
theorem ml_RX8_81 : Cond.methodLink RX8 81 yX8_set ∈ WS := (wsm_4 (i := 23) rfl rfl)
theorem ml_RX8_85 : Cond.methodLink RX8 85 yX8_note ∈ WS := (wsm_4 (i := 27) rfl rfl)
theorem ml_RX9_22 : Cond.methodLink RX9 22 yX9_shorten ∈ WS := (wsm_5 (i := 28) rfl rfl)
theorem ml_RX9_26 : Cond.methodLink RX9 26 Lib.Math.min.name ∈ WS := (wsm_5 (i := 32) rfl rfl)
theorem ml_RX9_32 : Cond.methodLink RX9 32 yX5_hangTogether ∈ WS := (wsm_5 (i := 46) rfl rfl)
theorem ml_RX9_36 : Cond.methodLink RX9 36 yX5_odd ∈ WS := (wsm_5 (i := 62) rfl rfl)
theorem ml_RX9_40 : Cond.methodLink RX9 40 yX9_pairUp ∈ WS := (wsm_5 (i := 66) rfl rfl)
theorem ml_RX9_44 : Cond.methodLink RX9 44 yX5_together ∈ WS := (wsm_5 (i := 84) rfl rfl)
theorem ml_RX9_47 : Cond.methodLink RX9 47 yX9_lowestOf ∈ WS := (wsm_5 (i := 76) rfl rfl)
theorem ml_RX9_51 : Cond.methodLink RX9 51 yX9_lowestPartner ∈ WS := (wsm_5 (i := 72) rfl rfl)
theorem ml_RX9_54 : Cond.methodLink RX9 54 yX9_measure ∈ WS := (wsm_5 (i := 70) rfl rfl)
theorem ml_RX9_58 : Cond.methodLink RX9 58 yJ6_bitCount_0f7a4 ∈ WS := (wsm_5 (i := 71) rfl rfl)
theorem ml_RX9_63 : Cond.methodLink RX9 63 yX9_with ∈ WS := (wsm_5 (i := 79) rfl rfl)
theorem ml_RX9_66 : Cond.methodLink RX9 66 yX9_between ∈ WS := (wsm_5 (i := 83) rfl rfl)
theorem ml_RX8_58 : (RX8, 58, yX11_within) ∈ nestW := List.mem_of_getElem? (i := 0) rfl
theorem ml_RX7_53 : (RX7, 53, yX11_within) ∈ nestW := List.mem_of_getElem? (i := 1) rfl
theorem ml_RX3_97 : (RX3, 97, yX11_within) ∈ nestW := List.mem_of_getElem? (i := 2) rfl
theorem ml_RX10_90 : (RX10, 90, yX11_within) ∈ nestW := List.mem_of_getElem? (i := 3) rfl
theorem ml_RX8_34 : Cond.methodLink RX8 34 arraycopyName ∈ WS := (wsm_4 (i := 18) rfl rfl)
theorem ml_RX0_62 : Cond.methodLink RX0 62 arraycopyName ∈ WS := (wsm_5 (i := 125) rfl rfl)
theorem ml_RX5_18 : Cond.methodLink RX5 18 arraycopyName ∈ WS := (wsm_6 (i := 9) rfl rfl)
theorem ml_RX4_15 : Cond.methodLink RX4 15 arraycopyName ∈ WS := (wsm_6 (i := 14) rfl rfl)
theorem ml_RX10_78 : Cond.methodLink RX10 78 arraycopyName ∈ WS := (wsm_6 (i := 15) rfl rfl)
theorem jw_copy : Cond.native arraycopyName ∈ WS ∧ Cond.static arraycopyName ∈ WS ∧ Cond.initialized "java/lang/System" ∈ WS := ⟨(wsm_3 (i := 193) rfl rfl), (wsm_3 (i := 192) rfl rfl), (wsm_1 (i := 21) rfl rfl)⟩
theorem jw_imax : Cond.static Lib.Math.max.name ∈ WS ∧ Cond.initialized "java/lang/Math" ∈ WS ∧ Cond.code Lib.Math.max.name Lib.Math.max.code 2 (some .int) ∈ WS := ⟨(wsm_3 (i := 48) rfl rfl), (wsm_1 (i := 13) rfl rfl), (wsm_3 (i := 49) rfl rfl)⟩
theorem jw_imin : Cond.static Lib.Math.min.name ∈ WS ∧ Cond.initialized "java/lang/Math" ∈ WS ∧ Cond.code Lib.Math.min.name Lib.Math.min.code 2 (some .int) ∈ WS := ⟨(wsm_2 (i := 189) rfl rfl), (wsm_1 (i := 13) rfl rfl), (wsm_2 (i := 190) rfl rfl)⟩
theorem jw_lmax : Cond.static Lib.MathLoose.max_long.x ∈ WS ∧ Cond.initialized "java/lang/Math" ∈ WS ∧ Cond.code Lib.MathLoose.max_long.x Lib.MathLoose.max_long.code 4 (some .long) ∈ WS := ⟨(wsm_4 (i := 133) rfl rfl), (wsm_1 (i := 13) rfl rfl), (wsm_4 (i := 134) rfl rfl)⟩
theorem jw_lmin : Cond.static Lib.MathLoose.min_long.x ∈ WS ∧ Cond.initialized "java/lang/Math" ∈ WS ∧ Cond.code Lib.MathLoose.min_long.x Lib.MathLoose.min_long.code 4 (some .long) ∈ WS := ⟨(wsm_4 (i := 130) rfl rfl), (wsm_1 (i := 13) rfl rfl), (wsm_4 (i := 131) rfl rfl)⟩
def scP3 : Nat → AP := fun i => match i with
  | 0 => pX3_sum
  | 1 => pX3_product
  | 2 => pX3_one
  | 3 => pX3_around
  | 4 => pX3_choice
  | 5 => pX3_either
  | 6 => pX3_both
  | 7 => pX3_ask
  | _ => pX3_deny
def scA3 : Nat → Int32 → Int32 → List AV := fun i a b => match i with
  | 0 => [aR 3 0 49, aI a]
  | 1 => [aR 3 0 49, aI a]
  | 2 => [aR 3 0 49, aI a]
  | 3 => [aR 3 0 49, aI a, aI b]
  | 4 => [aR 3 0 49, aI a]
  | 5 => [aR 3 0 49, aI a]
  | 6 => [aR 3 0 49, aI a]
  | 7 => [aR 3 0 49, aI a]
  | _ => [aR 3 0 49, aI a]
def scP0 : Nat → AP := fun i => match i with
  | 0 => pX0_choose
  | _ => pX0_chooseFor
def scA0 : Nat → Int32 → Int32 → List AV := fun i a b => match i with
  | 0 => [aR 0 0 62, aI a, aI b]
  | _ => [aR 0 0 62, aI a, aI b]
