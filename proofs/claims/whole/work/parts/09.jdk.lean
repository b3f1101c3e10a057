/-! members of the JDK: min, max, arraycopy -/
def wC (σ : Sg) (k0 sp k1 dp n : Nat) : Sg := (fun a j => if a = k1 ∧ dp ≤ j ∧ j < dp + n then σ.1 k0 (sp + (j - dp)) else σ.1 a j, σ.2)
theorem wC_at {σ : Sg} {k0 sp k1 dp n : Nat} : (wC σ k0 sp k1 dp n).1 k1 = va_cpy (σ.1 k0) (σ.1 k1) sp dp n := by
  funext j
  simp [wC, va_cpy]
theorem wC_off {σ : Sg} {k0 sp k1 dp n a : Nat} (h : a ≠ k1) : (wC σ k0 sp k1 dp n).1 a = σ.1 a := by
  funext j
  simp [wC, h]
def cpg (sp dp n : Int32) (n0 n1 : Nat) : Bool := !decide (sp < 0) && !decide (dp < 0) && !decide (n < 0) && decide (ix sp + ix n ≤ n0) && decide (ix dp + ix n ≤ n1)
def bzs (f : Nat → Int32) (sp n : Nat) : Bool := (List.range n).all fun i => bz (f (sp + i))
def imax (x y : Int32) : Int32 := if x < y then y else x
def imin (x y : Int32) : Int32 := if y < x then y else x
def lmax (x y : Int64) : Int64 := if y < x then x else y
def lmin (x y : Int64) : Int64 := if y < x then y else x
section JDK
variable {κ : Kd} {P : AP} {d pc : Nat} {out : Out} {L : List (Option AV)} {r stk : List AV} {σ : Sg}
theorem rest8w {ad : Nat → Nat} {w : Nat} (hw : w ≤ 32) (hd1 : 1 ≤ d) (h : (r.map (fun v => if isL v = true then 2 else 1)).sum ≤ 8) : ((r.map (cv ad)).map fun v => v.category).sum + w ≤ (rmA d).locals := by
  have h1 := rest8 (ad := ad) h
  show _ ≤ 40 * d
  omega
theorem aw_imax {idx : Nat} {x y : Int32} (hd1 : 1 ≤ d) (h8 : (r.map (fun v => if isL v = true then 2 else 1)).sum ≤ 8) (hw : Cond.static Lib.Math.max.name ∈ WS ∧ Cond.initialized "java/lang/Math" ∈ WS ∧ Cond.code Lib.Math.max.name Lib.Math.max.code 2 (some .int) ∈ WS) (hl : Cond.methodLink P.1.cls idx Lib.Math.max.name ∈ WS) (hd : decode P.2.1 pc = .ok (.invokestatic idx, 3)) (k : AW κ P d out (pc + 3) L (aI (imax x y) :: r) σ) : AW κ P d out pc L (aI y :: aI x :: r) σ :=
  aw_step (pc' := pc + 3) (L' := L) (stk' := aI (imax x y) :: r) (σ' := σ) (fun hP hR ok => ⟨fun l p e s m args below meth c D ids ad A H locs ls Q F hW hD hS hl0 kk => by
    obtain ⟨hx, hb, hrr, hml, hown, hts, hlk, hK, hA⟩ := F
    exact va_mmax hx hb (by rw [hml]; exact hl0.1.symm) hown (hts _ (List.mem_cons_of_mem _ hl)) (hts _ (List.mem_cons_of_mem _ hw.1)) (hts _ (List.mem_cons_of_mem _ hw.2.1)) (hts _ (List.mem_cons_of_mem _ hw.2.2)) hd1 (rest8w (by decide) hd1 h8) (Nat.zero_le _) (Nat.zero_le _) hd (kk H locs ls hW hD hS hl0), ok.1, ok.2.1, okc trivial (okd (okd ok.2.2).2).2⟩) k
theorem aw_imin {idx : Nat} {x y : Int32} (hd1 : 1 ≤ d) (h8 : (r.map (fun v => if isL v = true then 2 else 1)).sum ≤ 8) (hw : Cond.static Lib.Math.min.name ∈ WS ∧ Cond.initialized "java/lang/Math" ∈ WS ∧ Cond.code Lib.Math.min.name Lib.Math.min.code 2 (some .int) ∈ WS) (hl : Cond.methodLink P.1.cls idx Lib.Math.min.name ∈ WS) (hd : decode P.2.1 pc = .ok (.invokestatic idx, 3)) (k : AW κ P d out (pc + 3) L (aI (imin x y) :: r) σ) : AW κ P d out pc L (aI y :: aI x :: r) σ :=
  aw_step (pc' := pc + 3) (L' := L) (stk' := aI (imin x y) :: r) (σ' := σ) (fun hP hR ok => ⟨fun l p e s m args below meth c D ids ad A H locs ls Q F hW hD hS hl0 kk => by
    obtain ⟨hx, hb, hrr, hml, hown, hts, hlk, hK, hA⟩ := F
    exact va_mmin hx hb (by rw [hml]; exact hl0.1.symm) hown (hts _ (List.mem_cons_of_mem _ hl)) (hts _ (List.mem_cons_of_mem _ hw.1)) (hts _ (List.mem_cons_of_mem _ hw.2.1)) (hts _ (List.mem_cons_of_mem _ hw.2.2)) hd1 (rest8w (by decide) hd1 h8) (Nat.zero_le _) (Nat.zero_le _) hd (kk H locs ls hW hD hS hl0), ok.1, ok.2.1, okc trivial (okd (okd ok.2.2).2).2⟩) k
theorem aw_lmax {idx : Nat} {x y : Int64} (hd1 : 1 ≤ d) (h8 : (r.map (fun v => if isL v = true then 2 else 1)).sum ≤ 8) (hw : Cond.static Lib.MathLoose.max_long.x ∈ WS ∧ Cond.initialized "java/lang/Math" ∈ WS ∧ Cond.code Lib.MathLoose.max_long.x Lib.MathLoose.max_long.code 4 (some .long) ∈ WS) (hl : Cond.methodLink P.1.cls idx Lib.MathLoose.max_long.x ∈ WS) (hd : decode P.2.1 pc = .ok (.invokestatic idx, 3)) (k : AW κ P d out (pc + 3) L (aL (lmax x y) :: r) σ) : AW κ P d out pc L (aL y :: aL x :: r) σ :=
  aw_step (pc' := pc + 3) (L' := L) (stk' := aL (lmax x y) :: r) (σ' := σ) (fun hP hR ok => ⟨fun l p e s m args below meth c D ids ad A H locs ls Q F hW hD hS hl0 kk => by
    obtain ⟨hx, hb, hrr, hml, hown, hts, hlk, hK, hA⟩ := F
    exact va_mmax_long hx hb (by rw [hml]; exact hl0.1.symm) hown (hts _ (List.mem_cons_of_mem _ hl)) (hts _ (List.mem_cons_of_mem _ hw.1)) (hts _ (List.mem_cons_of_mem _ hw.2.1)) (hts _ (List.mem_cons_of_mem _ hw.2.2)) hd1 (rest8w (by decide) hd1 h8) (Nat.zero_le _) (Nat.zero_le _) hd (kk H locs ls hW hD hS hl0), ok.1, ok.2.1, okc trivial (okd (okd ok.2.2).2).2⟩) k
theorem aw_lmin {idx : Nat} {x y : Int64} (hd1 : 1 ≤ d) (h8 : (r.map (fun v => if isL v = true then 2 else 1)).sum ≤ 8) (hw : Cond.static Lib.MathLoose.min_long.x ∈ WS ∧ Cond.initialized "java/lang/Math" ∈ WS ∧ Cond.code Lib.MathLoose.min_long.x Lib.MathLoose.min_long.code 4 (some .long) ∈ WS) (hl : Cond.methodLink P.1.cls idx Lib.MathLoose.min_long.x ∈ WS) (hd : decode P.2.1 pc = .ok (.invokestatic idx, 3)) (k : AW κ P d out (pc + 3) L (aL (lmin x y) :: r) σ) : AW κ P d out pc L (aL y :: aL x :: r) σ :=
  aw_step (pc' := pc + 3) (L' := L) (stk' := aL (lmin x y) :: r) (σ' := σ) (fun hP hR ok => ⟨fun l p e s m args below meth c D ids ad A H locs ls Q F hW hD hS hl0 kk => by
    obtain ⟨hx, hb, hrr, hml, hown, hts, hlk, hK, hA⟩ := F
    exact va_mmin_long hx hb (by rw [hml]; exact hl0.1.symm) hown (hts _ (List.mem_cons_of_mem _ hl)) (hts _ (List.mem_cons_of_mem _ hw.1)) (hts _ (List.mem_cons_of_mem _ hw.2.1)) (hts _ (List.mem_cons_of_mem _ hw.2.2)) hd1 (rest8w (by decide) hd1 h8) (Nat.zero_le _) (Nat.zero_le _) hd (kk H locs ls hW hD hS hl0), ok.1, ok.2.1, okc trivial (okd (okd ok.2.2).2).2⟩) k
theorem cpg_of {sp dp n : Int32} {n0 n1 : Nat} (h : cpg sp dp n n0 n1 = true) : ¬ sp < 0 ∧ ¬ dp < 0 ∧ ¬ n < 0 ∧ sp.toNatClampNeg + n.toNatClampNeg ≤ n0 ∧ dp.toNatClampNeg + n.toNatClampNeg ≤ n1 := by
  unfold cpg ix at h
  simp only [Bool.and_eq_true, decide_eq_true_eq, Bool.not_eq_true', decide_eq_false_iff_not] at h
  exact ⟨h.1.1.1.1, h.1.1.1.2, h.1.1.2, h.1.2, h.2⟩
theorem aw_copyI {idx : Nat} {sp dp n : Int32} {n0 n1 k0 k1 : Nat} (hd1 : 1 ≤ d) (h8 : (r.map (fun v => if isL v = true then 2 else 1)).sum ≤ 8) (hw : Cond.native arraycopyName ∈ WS ∧ Cond.static arraycopyName ∈ WS ∧ Cond.initialized "java/lang/System" ∈ WS) (hl : Cond.methodLink P.1.cls idx arraycopyName ∈ WS) (hd : decode P.2.1 pc = .ok (.invokestatic idx, 3)) (hg : cpg sp dp n n0 n1 = true) (k : AW κ P d out (pc + 3) L r (wC σ k0 (ix sp) k1 (ix dp) (ix n))) : AW κ P d out pc L (aI n :: aI dp :: aR 13 n1 k1 :: aI sp :: aR 13 n0 k0 :: r) σ :=
  aw_step (fun hP hR ok => by
    obtain ⟨g1, g2, g3, g4, g5⟩ := cpg_of hg
    have hk1 : κ[k1]? = some (13, n1) := (okd (okd (okd ok.2.2).2).2).1
    have hk0 : κ[k0]? = some (13, n0) := (okd (okd (okd (okd (okd ok.2.2).2).2).2).2).1
    refine ⟨fun l p e s m args below meth c D ids ad A H locs ls Q F hW hD hS hl0 kk => ?_, ok.1, ok.2.1, (okd (okd (okd (okd (okd ok.2.2).2).2).2).2).2⟩
    obtain ⟨hx, hb, hrr, hml, hown, hts, hlk, hK, hA⟩ := F
    have hset := aW_set (ids := ids) (ad := ad) (σ := σ) (σ' := wC σ k0 (ix sp) k1 (ix dp) (ix n)) hk1 (x := .inl (ids.1, n1, .inl (va_cpy (σ.1 k0) (σ.1 k1) (ix sp) (ix dp) (ix n)))) (by rw [ce_I, wC_at]) (fun a h => wC_off h) (fun a h => rfl) (fun a h => rfl)
    exact va_copyi hx hb (by rw [hml]; exact hl0.1.symm) hown (hts _ (List.mem_cons_of_mem _ hl)) (hts _ (List.mem_cons_of_mem _ hw.1)) (hts _ (List.mem_cons_of_mem _ hw.2.1)) (hts _ (List.mem_cons_of_mem _ hw.2.2)) hK hW hD hS k0 k1 0 0 (aW_get hk0) (aW_get hk1) rfl rfl rfl g1 g2 g3 g4 g5 (fun i hi => rfl) hd1 (rest8w (by decide) hd1 h8) hd
      (fun H1 locs1 hW1 hD1 hS1 => kk H1 locs1 ls (by rw [← hset]; exact hW1) (by rw [← hset]; exact hD1) hS1 hl0)) k
theorem aw_copyZ {idx : Nat} {sp dp n : Int32} {n0 n1 k0 k1 : Nat} (hd1 : 1 ≤ d) (h8 : (r.map (fun v => if isL v = true then 2 else 1)).sum ≤ 8) (hw : Cond.native arraycopyName ∈ WS ∧ Cond.static arraycopyName ∈ WS ∧ Cond.initialized "java/lang/System" ∈ WS) (hl : Cond.methodLink P.1.cls idx arraycopyName ∈ WS) (hd : decode P.2.1 pc = .ok (.invokestatic idx, 3)) (hg : (cpg sp dp n n0 n1 && bzs (σ.1 k0) (ix sp) (ix n)) = true) (k : AW κ P d out (pc + 3) L r (wC σ k0 (ix sp) k1 (ix dp) (ix n))) : AW κ P d out pc L (aI n :: aI dp :: aR 15 n1 k1 :: aI sp :: aR 15 n0 k0 :: r) σ :=
  aw_step (fun hP hR ok => by
    rw [Bool.and_eq_true] at hg
    obtain ⟨g1, g2, g3, g4, g5⟩ := cpg_of hg.1
    have hk1 : κ[k1]? = some (15, n1) := (okd (okd (okd ok.2.2).2).2).1
    have hk0 : κ[k0]? = some (15, n0) := (okd (okd (okd (okd (okd ok.2.2).2).2).2).2).1
    refine ⟨fun l p e s m args below meth c D ids ad A H locs ls Q F hW hD hS hl0 kk => ?_, ok.1, ok.2.1, (okd (okd (okd (okd (okd ok.2.2).2).2).2).2).2⟩
    obtain ⟨hx, hb, hrr, hml, hown, hts, hlk, hK, hA⟩ := F
    have hset := aW_set (ids := ids) (ad := ad) (σ := σ) (σ' := wC σ k0 (ix sp) k1 (ix dp) (ix n)) hk1 (x := .inl (ids.2.2.1, n1, .inl (va_cpy (σ.1 k0) (σ.1 k1) (ix sp) (ix dp) (ix n)))) (by rw [ce_Z, wC_at]) (fun a h => wC_off h) (fun a h => rfl) (fun a h => rfl)
    exact va_copyi hx hb (by rw [hml]; exact hl0.1.symm) hown (hts _ (List.mem_cons_of_mem _ hl)) (hts _ (List.mem_cons_of_mem _ hw.1)) (hts _ (List.mem_cons_of_mem _ hw.2.1)) (hts _ (List.mem_cons_of_mem _ hw.2.2)) hK hW hD hS k0 k1 2 2 (aW_get hk0) (aW_get hk1) rfl rfl rfl g1 g2 g3 g4 g5 (fun i hi => (bz_nar (List.all_eq_true.mp hg.2 i (List.mem_range.mpr hi))).2.1) hd1 (rest8w (by decide) hd1 h8) hd
      (fun H1 locs1 hW1 hD1 hS1 => kk H1 locs1 ls (by rw [← hset]; exact hW1) (by rw [← hset]; exact hD1) hS1 hl0)) k
end JDK
