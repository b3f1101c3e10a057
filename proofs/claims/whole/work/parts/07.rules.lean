/-! rules of the judgement AW -/
theorem StepW.trans {κ : Kd} {P : AP} {d pc pc1 pc2 : Nat} {L L1 L2 : List (Option AV)} {stk stk1 stk2 : List AV} {σ σ1 σ2 : Sg} (h1 : StepW κ P d pc L stk σ pc1 L1 stk1 σ1) (h2 : StepW κ P d pc1 L1 stk1 σ1 pc2 L2 stk2 σ2) : StepW κ P d pc L stk σ pc2 L2 stk2 σ2 :=
  fun l p e s m args below meth c D ids ad A H locs ls Q F hW hD hS hl kk => h1 l p e s m args below meth c D ids ad A H locs ls Q F hW hD hS hl
    fun H1 locs1 ls1 w1 w2 w3 w4 => h2 l p e s m args below meth c D ids ad A H1 locs1 ls1 Q F w1 w2 w3 w4 kk
theorem seq_sound {κ : Kd} {P : AP} {d : Nat} (hP : POK P) (hR : Reg κ) : ∀ (is : List (Instr × Nat × Ax)) (pc pc' : Nat) (L L' : List (Option AV)) (stk stk' : List AV) (σ σ' : Sg) (g : List Bool),
    aseq κ is (L, stk, σ) = some (g, L', stk', σ') → gall g = true → chk P pc is pc' = true → okS κ (L, stk, σ) → StepW κ P d pc L stk σ pc' L' stk' σ' ∧ okS κ (L', stk', σ') := by
  intro is
  induction is with
  | nil =>
    intro pc pc' L L' stk stk' σ σ' g h hg hc ok
    cases h
    have hc := Nat.eq_of_beq_eq_true hc
    subst hc
    exact ⟨fun l p e s m args below meth c D ids ad A H locs ls Q F hW hD hS hl kk => kk H locs ls hW hD hS hl, ok⟩
  | cons q r ih =>
    intro pc pc' L L' stk stk' σ σ' g h hg hc ok
    obtain ⟨i, n, x⟩ := q
    unfold aseq at h
    split at h
    · cases h
    rename_i g1 st1 h1
    split at h
    · cases h
    rename_i g2 st2 h2
    obtain ⟨L1, stk1, σ1⟩ := st1
    unfold chk at hc
    rw [Bool.and_eq_true] at hc
    split at h
    · cases h
      unfold gall at hg
      rw [Bool.and_eq_true] at hg
      obtain ⟨s1, ok1⟩ := a1_sound (d := d) h1 hg.1 hc.1 hP hR ok
      obtain ⟨s2, ok2⟩ := ih (pc + n) pc' L1 L' stk1 stk' σ1 σ' g2 h2 hg.2 hc.2 ok1
      exact ⟨s1.trans s2, ok2⟩
    · split at h
      · cases h
        obtain ⟨s1, ok1⟩ := a1_sound (d := d) h1 rfl hc.1 hP hR ok
        obtain ⟨s2, ok2⟩ := ih (pc + n) pc' L1 L' stk1 stk' σ1 σ' _ h2 hg hc.2 ok1
        exact ⟨s1.trans s2, ok2⟩
      · cases h
section AWRULES
variable {κ : Kd} {P : AP} {d pc : Nat} {out : Out} {L : List (Option AV)} {r stk : List AV} {σ : Sg}
theorem aw_step {pc' : Nat} {L' : List (Option AV)} {stk' : List AV} {σ' : Sg} (hs : POK P → Reg κ → okS κ (L, stk, σ) → StepW κ P d pc L stk σ pc' L' stk' σ' ∧ okS κ (L', stk', σ')) (k : AW κ P d out pc' L' stk' σ') : AW κ P d out pc L stk σ := by
  intro hP hR h1 h2 h3
  obtain ⟨st, ok⟩ := hs hP hR ⟨h1, h2, h3⟩
  obtain ⟨a, b⟩ := k hP hR ok.1 ok.2.1 ok.2.2
  exact ⟨a, fun l p e s m args below meth c D ids ad A H locs ls F hW hD hS hl => st l p e s m args below meth c D ids ad A H locs ls _ F hW hD hS hl
    fun H1 locs1 ls1 w1 w2 w3 w4 => b l p e s m args below meth c D ids ad A H1 locs1 ls1 F w1 w2 w3 w4⟩
theorem aw_seq (is : List (Instr × Nat × Ax)) {pc' : Nat} {L' : List (Option AV)} {stk' : List AV} {σ' : Sg} {g : List Bool} (hc : chk P pc is pc' = true) (he : aseq κ is (L, stk, σ) = some (g, L', stk', σ')) (hg : gall g = true) (k : AW κ P d out pc' L' stk' σ') : AW κ P d out pc L stk σ :=
  aw_step (fun hP hR ok => seq_sound hP hR is pc pc' L L' stk stk' σ σ' g he hg hc ok) k
/-- locals that are no longer asked may be forgotten -/
def lsub : List (Option AV) → List (Option AV) → Prop
  | [], [] => True
  | none :: a, _ :: b => lsub a b
  | some x :: a, y :: b => y = some x ∧ lsub a b
  | _, _ => False
theorem lsub_get : ∀ {L' L : List (Option AV)}, lsub L' L → L'.length = L.length ∧ ∀ (i : Nat) (v : AV), L'[i]? = some (some v) → L[i]? = some (some v)
  | [], [], _ => ⟨rfl, fun i v h => h⟩
  | none :: a, y :: b, h => by
    obtain ⟨h1, h2⟩ := lsub_get (L' := a) (L := b) h
    refine ⟨by simp [h1], fun i v hi => ?_⟩
    cases i with
    | zero => simp at hi
    | succ i => simpa using h2 i v (by simpa using hi)
  | some x :: a, y :: b, h => by
    obtain ⟨h0, h⟩ := h
    obtain ⟨h1, h2⟩ := lsub_get (L' := a) (L := b) h
    refine ⟨by simp [h1], fun i v hi => ?_⟩
    cases i with
    | zero => subst h0; simpa using hi
    | succ i => simpa using h2 i v (by simpa using hi)
  | [], _ :: _, h => by cases h
  | none :: _, [], h => by cases h
  | some _ :: _, [], h => by cases h
theorem aw_forget {L' : List (Option AV)} (hs : lsub L' L) (k : AW κ P d out pc L' stk σ) : AW κ P d out pc L stk σ := by
  obtain ⟨e1, e2⟩ := lsub_get hs
  refine aw_step (fun hP hR ok => ⟨fun l p e s m args below meth c D ids ad A H locs ls Q F hW hD hS hl kk => kk H locs ls hW hD hS ⟨hl.1, e1.trans hl.2.1, hl.2.2.1, fun i v h => hl.2.2.2 i v (e2 i v h)⟩, ok.1, fun v hv => ?_, ok.2.2⟩) k
  obtain ⟨i, hi⟩ := List.mem_iff_getElem?.mp hv
  exact ok.2.1 v (List.mem_iff_getElem?.mpr ⟨i, e2 i v hi⟩)
theorem aw_goto {off : Int} {tgt : Nat} (hd : decode P.2.1 pc = .ok (.goto off, 3)) (ht : (pc : Int) + off = (tgt : Int)) (k : AW κ P d out tgt L stk σ) : AW κ P d out pc L stk σ :=
  aw_step (fun hP hR ok => ⟨fun l p e s m args below meth c D ids ad A H locs ls Q F hW hD hS hl kk => lv_goto F.1 F.2.1 hd ht (kk H locs ls hW hD hS hl), ok⟩) k
theorem aw_icmp_eq {x y : Int32} {off : Int} {tgt : Nat} (hd : decode P.2.1 pc = .ok (.if_icmp .eq off, 3)) (ht : (pc : Int) + off = (tgt : Int)) (kt : x = y → AW κ P d out tgt L r σ) (kf : ¬ x = y → AW κ P d out (pc + 3) L r σ) : AW κ P d out pc L (aI y :: aI x :: r) σ := by
  intro hP hR h1 h2 h3
  have h4 := (okd (okd h3).2).2
  by_cases hc : x = y
  · obtain ⟨a, b⟩ := kt hc hP hR h1 h2 h4
    exact ⟨a, fun l p e s m args below meth c D ids ad A H locs ls F hW hD hS hl => lv_icmp_eq F.1 F.2.1 hd ht (fun _ => (b l p e s m args below meth c D ids ad A H locs ls F hW hD hS hl)) (fun z => absurd hc z)⟩
  · obtain ⟨a, b⟩ := kf hc hP hR h1 h2 h4
    exact ⟨a, fun l p e s m args below meth c D ids ad A H locs ls F hW hD hS hl => lv_icmp_eq F.1 F.2.1 hd ht (fun z => absurd z hc) (fun _ => (b l p e s m args below meth c D ids ad A H locs ls F hW hD hS hl))⟩
theorem aw_if_eq {x : Int32} {off : Int} {tgt : Nat} (hd : decode P.2.1 pc = .ok (.ifCond .eq off, 3)) (ht : (pc : Int) + off = (tgt : Int)) (kt : x = 0 → AW κ P d out tgt L r σ) (kf : ¬ x = 0 → AW κ P d out (pc + 3) L r σ) : AW κ P d out pc L (aI x :: r) σ := by
  intro hP hR h1 h2 h3
  have h4 := (okd h3).2
  by_cases hc : x = 0
  · obtain ⟨a, b⟩ := kt hc hP hR h1 h2 h4
    exact ⟨a, fun l p e s m args below meth c D ids ad A H locs ls F hW hD hS hl => lv_if_eq F.1 F.2.1 hd ht (fun _ => (b l p e s m args below meth c D ids ad A H locs ls F hW hD hS hl)) (fun z => absurd hc z)⟩
  · obtain ⟨a, b⟩ := kf hc hP hR h1 h2 h4
    exact ⟨a, fun l p e s m args below meth c D ids ad A H locs ls F hW hD hS hl => lv_if_eq F.1 F.2.1 hd ht (fun z => absurd z hc) (fun _ => (b l p e s m args below meth c D ids ad A H locs ls F hW hD hS hl))⟩
theorem aw_icmp_ne {x y : Int32} {off : Int} {tgt : Nat} (hd : decode P.2.1 pc = .ok (.if_icmp .ne off, 3)) (ht : (pc : Int) + off = (tgt : Int)) (kt : ¬ x = y → AW κ P d out tgt L r σ) (kf : x = y → AW κ P d out (pc + 3) L r σ) : AW κ P d out pc L (aI y :: aI x :: r) σ := by
  intro hP hR h1 h2 h3
  have h4 := (okd (okd h3).2).2
  by_cases hc : x = y
  · obtain ⟨a, b⟩ := kf hc hP hR h1 h2 h4
    exact ⟨a, fun l p e s m args below meth c D ids ad A H locs ls F hW hD hS hl => lv_icmp_ne F.1 F.2.1 hd ht (fun z => absurd hc z) (fun _ => (b l p e s m args below meth c D ids ad A H locs ls F hW hD hS hl))⟩
  · obtain ⟨a, b⟩ := kt hc hP hR h1 h2 h4
    exact ⟨a, fun l p e s m args below meth c D ids ad A H locs ls F hW hD hS hl => lv_icmp_ne F.1 F.2.1 hd ht (fun _ => (b l p e s m args below meth c D ids ad A H locs ls F hW hD hS hl)) (fun z => absurd z hc)⟩
theorem aw_if_ne {x : Int32} {off : Int} {tgt : Nat} (hd : decode P.2.1 pc = .ok (.ifCond .ne off, 3)) (ht : (pc : Int) + off = (tgt : Int)) (kt : ¬ x = 0 → AW κ P d out tgt L r σ) (kf : x = 0 → AW κ P d out (pc + 3) L r σ) : AW κ P d out pc L (aI x :: r) σ := by
  intro hP hR h1 h2 h3
  have h4 := (okd h3).2
  by_cases hc : x = 0
  · obtain ⟨a, b⟩ := kf hc hP hR h1 h2 h4
    exact ⟨a, fun l p e s m args below meth c D ids ad A H locs ls F hW hD hS hl => lv_if_ne F.1 F.2.1 hd ht (fun z => absurd hc z) (fun _ => (b l p e s m args below meth c D ids ad A H locs ls F hW hD hS hl))⟩
  · obtain ⟨a, b⟩ := kt hc hP hR h1 h2 h4
    exact ⟨a, fun l p e s m args below meth c D ids ad A H locs ls F hW hD hS hl => lv_if_ne F.1 F.2.1 hd ht (fun _ => (b l p e s m args below meth c D ids ad A H locs ls F hW hD hS hl)) (fun z => absurd z hc)⟩
theorem aw_icmp_lt {x y : Int32} {off : Int} {tgt : Nat} (hd : decode P.2.1 pc = .ok (.if_icmp .lt off, 3)) (ht : (pc : Int) + off = (tgt : Int)) (kt : x < y → AW κ P d out tgt L r σ) (kf : ¬ x < y → AW κ P d out (pc + 3) L r σ) : AW κ P d out pc L (aI y :: aI x :: r) σ := by
  intro hP hR h1 h2 h3
  have h4 := (okd (okd h3).2).2
  by_cases hc : x < y
  · obtain ⟨a, b⟩ := kt hc hP hR h1 h2 h4
    exact ⟨a, fun l p e s m args below meth c D ids ad A H locs ls F hW hD hS hl => lv_icmp_lt F.1 F.2.1 hd ht (fun _ => (b l p e s m args below meth c D ids ad A H locs ls F hW hD hS hl)) (fun z => absurd hc z)⟩
  · obtain ⟨a, b⟩ := kf hc hP hR h1 h2 h4
    exact ⟨a, fun l p e s m args below meth c D ids ad A H locs ls F hW hD hS hl => lv_icmp_lt F.1 F.2.1 hd ht (fun z => absurd z hc) (fun _ => (b l p e s m args below meth c D ids ad A H locs ls F hW hD hS hl))⟩
theorem aw_if_lt {x : Int32} {off : Int} {tgt : Nat} (hd : decode P.2.1 pc = .ok (.ifCond .lt off, 3)) (ht : (pc : Int) + off = (tgt : Int)) (kt : x < 0 → AW κ P d out tgt L r σ) (kf : ¬ x < 0 → AW κ P d out (pc + 3) L r σ) : AW κ P d out pc L (aI x :: r) σ := by
  intro hP hR h1 h2 h3
  have h4 := (okd h3).2
  by_cases hc : x < 0
  · obtain ⟨a, b⟩ := kt hc hP hR h1 h2 h4
    exact ⟨a, fun l p e s m args below meth c D ids ad A H locs ls F hW hD hS hl => lv_if_lt F.1 F.2.1 hd ht (fun _ => (b l p e s m args below meth c D ids ad A H locs ls F hW hD hS hl)) (fun z => absurd hc z)⟩
  · obtain ⟨a, b⟩ := kf hc hP hR h1 h2 h4
    exact ⟨a, fun l p e s m args below meth c D ids ad A H locs ls F hW hD hS hl => lv_if_lt F.1 F.2.1 hd ht (fun z => absurd z hc) (fun _ => (b l p e s m args below meth c D ids ad A H locs ls F hW hD hS hl))⟩
theorem aw_icmp_ge {x y : Int32} {off : Int} {tgt : Nat} (hd : decode P.2.1 pc = .ok (.if_icmp .ge off, 3)) (ht : (pc : Int) + off = (tgt : Int)) (kt : y ≤ x → AW κ P d out tgt L r σ) (kf : ¬ y ≤ x → AW κ P d out (pc + 3) L r σ) : AW κ P d out pc L (aI y :: aI x :: r) σ := by
  intro hP hR h1 h2 h3
  have h4 := (okd (okd h3).2).2
  by_cases hc : y ≤ x
  · obtain ⟨a, b⟩ := kt hc hP hR h1 h2 h4
    exact ⟨a, fun l p e s m args below meth c D ids ad A H locs ls F hW hD hS hl => lv_icmp_ge F.1 F.2.1 hd ht (fun _ => (b l p e s m args below meth c D ids ad A H locs ls F hW hD hS hl)) (fun z => absurd hc z)⟩
  · obtain ⟨a, b⟩ := kf hc hP hR h1 h2 h4
    exact ⟨a, fun l p e s m args below meth c D ids ad A H locs ls F hW hD hS hl => lv_icmp_ge F.1 F.2.1 hd ht (fun z => absurd z hc) (fun _ => (b l p e s m args below meth c D ids ad A H locs ls F hW hD hS hl))⟩
theorem aw_if_ge {x : Int32} {off : Int} {tgt : Nat} (hd : decode P.2.1 pc = .ok (.ifCond .ge off, 3)) (ht : (pc : Int) + off = (tgt : Int)) (kt : 0 ≤ x → AW κ P d out tgt L r σ) (kf : ¬ 0 ≤ x → AW κ P d out (pc + 3) L r σ) : AW κ P d out pc L (aI x :: r) σ := by
  intro hP hR h1 h2 h3
  have h4 := (okd h3).2
  by_cases hc : 0 ≤ x
  · obtain ⟨a, b⟩ := kt hc hP hR h1 h2 h4
    exact ⟨a, fun l p e s m args below meth c D ids ad A H locs ls F hW hD hS hl => lv_if_ge F.1 F.2.1 hd ht (fun _ => (b l p e s m args below meth c D ids ad A H locs ls F hW hD hS hl)) (fun z => absurd hc z)⟩
  · obtain ⟨a, b⟩ := kf hc hP hR h1 h2 h4
    exact ⟨a, fun l p e s m args below meth c D ids ad A H locs ls F hW hD hS hl => lv_if_ge F.1 F.2.1 hd ht (fun z => absurd z hc) (fun _ => (b l p e s m args below meth c D ids ad A H locs ls F hW hD hS hl))⟩
theorem aw_icmp_gt {x y : Int32} {off : Int} {tgt : Nat} (hd : decode P.2.1 pc = .ok (.if_icmp .gt off, 3)) (ht : (pc : Int) + off = (tgt : Int)) (kt : y < x → AW κ P d out tgt L r σ) (kf : ¬ y < x → AW κ P d out (pc + 3) L r σ) : AW κ P d out pc L (aI y :: aI x :: r) σ := by
  intro hP hR h1 h2 h3
  have h4 := (okd (okd h3).2).2
  by_cases hc : y < x
  · obtain ⟨a, b⟩ := kt hc hP hR h1 h2 h4
    exact ⟨a, fun l p e s m args below meth c D ids ad A H locs ls F hW hD hS hl => lv_icmp_gt F.1 F.2.1 hd ht (fun _ => (b l p e s m args below meth c D ids ad A H locs ls F hW hD hS hl)) (fun z => absurd hc z)⟩
  · obtain ⟨a, b⟩ := kf hc hP hR h1 h2 h4
    exact ⟨a, fun l p e s m args below meth c D ids ad A H locs ls F hW hD hS hl => lv_icmp_gt F.1 F.2.1 hd ht (fun z => absurd z hc) (fun _ => (b l p e s m args below meth c D ids ad A H locs ls F hW hD hS hl))⟩
theorem aw_if_gt {x : Int32} {off : Int} {tgt : Nat} (hd : decode P.2.1 pc = .ok (.ifCond .gt off, 3)) (ht : (pc : Int) + off = (tgt : Int)) (kt : 0 < x → AW κ P d out tgt L r σ) (kf : ¬ 0 < x → AW κ P d out (pc + 3) L r σ) : AW κ P d out pc L (aI x :: r) σ := by
  intro hP hR h1 h2 h3
  have h4 := (okd h3).2
  by_cases hc : 0 < x
  · obtain ⟨a, b⟩ := kt hc hP hR h1 h2 h4
    exact ⟨a, fun l p e s m args below meth c D ids ad A H locs ls F hW hD hS hl => lv_if_gt F.1 F.2.1 hd ht (fun _ => (b l p e s m args below meth c D ids ad A H locs ls F hW hD hS hl)) (fun z => absurd hc z)⟩
  · obtain ⟨a, b⟩ := kf hc hP hR h1 h2 h4
    exact ⟨a, fun l p e s m args below meth c D ids ad A H locs ls F hW hD hS hl => lv_if_gt F.1 F.2.1 hd ht (fun z => absurd z hc) (fun _ => (b l p e s m args below meth c D ids ad A H locs ls F hW hD hS hl))⟩
theorem aw_icmp_le {x y : Int32} {off : Int} {tgt : Nat} (hd : decode P.2.1 pc = .ok (.if_icmp .le off, 3)) (ht : (pc : Int) + off = (tgt : Int)) (kt : x ≤ y → AW κ P d out tgt L r σ) (kf : ¬ x ≤ y → AW κ P d out (pc + 3) L r σ) : AW κ P d out pc L (aI y :: aI x :: r) σ := by
  intro hP hR h1 h2 h3
  have h4 := (okd (okd h3).2).2
  by_cases hc : x ≤ y
  · obtain ⟨a, b⟩ := kt hc hP hR h1 h2 h4
    exact ⟨a, fun l p e s m args below meth c D ids ad A H locs ls F hW hD hS hl => lv_icmp_le F.1 F.2.1 hd ht (fun _ => (b l p e s m args below meth c D ids ad A H locs ls F hW hD hS hl)) (fun z => absurd hc z)⟩
  · obtain ⟨a, b⟩ := kf hc hP hR h1 h2 h4
    exact ⟨a, fun l p e s m args below meth c D ids ad A H locs ls F hW hD hS hl => lv_icmp_le F.1 F.2.1 hd ht (fun z => absurd z hc) (fun _ => (b l p e s m args below meth c D ids ad A H locs ls F hW hD hS hl))⟩
theorem aw_if_le {x : Int32} {off : Int} {tgt : Nat} (hd : decode P.2.1 pc = .ok (.ifCond .le off, 3)) (ht : (pc : Int) + off = (tgt : Int)) (kt : x ≤ 0 → AW κ P d out tgt L r σ) (kf : ¬ x ≤ 0 → AW κ P d out (pc + 3) L r σ) : AW κ P d out pc L (aI x :: r) σ := by
  intro hP hR h1 h2 h3
  have h4 := (okd h3).2
  by_cases hc : x ≤ 0
  · obtain ⟨a, b⟩ := kt hc hP hR h1 h2 h4
    exact ⟨a, fun l p e s m args below meth c D ids ad A H locs ls F hW hD hS hl => lv_if_le F.1 F.2.1 hd ht (fun _ => (b l p e s m args below meth c D ids ad A H locs ls F hW hD hS hl)) (fun z => absurd hc z)⟩
  · obtain ⟨a, b⟩ := kf hc hP hR h1 h2 h4
    exact ⟨a, fun l p e s m args below meth c D ids ad A H locs ls F hW hD hS hl => lv_if_le F.1 F.2.1 hd ht (fun z => absurd z hc) (fun _ => (b l p e s m args below meth c D ids ad A H locs ls F hW hD hS hl))⟩
theorem aw_ifnullN {off : Int} {tgt : Nat} (hd : decode P.2.1 pc = .ok (.ifnull off, 3)) (ht : (pc : Int) + off = (tgt : Int)) (k : AW κ P d out tgt L r σ) : AW κ P d out pc L (aN :: r) σ :=
  aw_step (fun hP hR ok => ⟨fun l p e s m args below meth c D ids ad A H locs ls Q F hW hD hS hl kk => lv_ifnullN F.1 F.2.1 hd ht (kk H locs ls hW hD hS hl), ok.1, ok.2.1, (okd ok.2.2).2⟩) k
theorem aw_ifnullR {q : Nat × Nat × Nat} {off : Int} {tgt : Nat} (hd : decode P.2.1 pc = .ok (.ifnull off, 3)) (ht : (pc : Int) + off = (tgt : Int)) (k : AW κ P d out (pc + 3) L r σ) : AW κ P d out pc L (.inr (.inr (some q)) :: r) σ :=
  aw_step (fun hP hR ok => ⟨fun l p e s m args below meth c D ids ad A H locs ls Q F hW hD hS hl kk => lv_ifnull F.1 F.2.1 hd (kk H locs ls hW hD hS hl), ok.1, ok.2.1, (okd ok.2.2).2⟩) k
theorem aw_ifnonnullN {off : Int} {tgt : Nat} (hd : decode P.2.1 pc = .ok (.ifnonnull off, 3)) (ht : (pc : Int) + off = (tgt : Int)) (k : AW κ P d out (pc + 3) L r σ) : AW κ P d out pc L (aN :: r) σ :=
  aw_step (fun hP hR ok => ⟨fun l p e s m args below meth c D ids ad A H locs ls Q F hW hD hS hl kk => lv_ifnonnullN F.1 F.2.1 hd (kk H locs ls hW hD hS hl), ok.1, ok.2.1, (okd ok.2.2).2⟩) k
theorem aw_ifnonnullR {q : Nat × Nat × Nat} {off : Int} {tgt : Nat} (hd : decode P.2.1 pc = .ok (.ifnonnull off, 3)) (ht : (pc : Int) + off = (tgt : Int)) (k : AW κ P d out tgt L r σ) : AW κ P d out pc L (.inr (.inr (some q)) :: r) σ :=
  aw_step (fun hP hR ok => ⟨fun l p e s m args below meth c D ids ad A H locs ls Q F hW hD hS hl kk => lv_ifnonnull F.1 F.2.1 hd ht (kk H locs ls hW hD hS hl), ok.1, ok.2.1, (okd ok.2.2).2⟩) k
/-! switches -/
def swt : List (Int32 × Nat) → Nat → Int32 → Nat
  | [], dt, _ => dt
  | (v, t) :: r, dt, x => if x = v then t else swt r dt x
theorem swt_hit {dt : Nat} {x : Int32} : ∀ {tg : List (Int32 × Nat)} {i t : Nat}, tg[i]? = some (x, t) → (∀ j, j < i → ∀ q, tg[j]? = some q → q.1 ≠ x) → swt tg dt x = t
  | [], i, t, h, _ => by simp at h
  | (v, t') :: r, 0, t, h, _ => by
    simp at h
    obtain ⟨rfl, rfl⟩ := h
    simp [swt]
  | (v, t') :: r, i + 1, t, h, hn => by
    have h1 := hn 0 (by omega) (v, t') rfl
    rw [swt, if_neg (fun e => h1 e.symm)]
    exact swt_hit (i := i) (by simpa using h) (fun j hj q hq => hn (j + 1) (by omega) q (by simpa using hq))
theorem swt_miss {dt : Nat} {x : Int32} : ∀ {tg : List (Int32 × Nat)}, (∀ q ∈ tg, q.1 ≠ x) → swt tg dt x = dt
  | [], _ => rfl
  | (v, t') :: r, hn => by
    rw [swt, if_neg (fun e => hn (v, t') List.mem_cons_self e.symm)]
    exact swt_miss (fun q hq => hn q (List.mem_cons_of_mem _ hq))
def AWsw (κ : Kd) (P : AP) (d : Nat) (out : Out) (L : List (Option AV)) (stk : List AV) (σ : Sg) (x : Int32) : List (Int32 × Nat) → Nat → Prop
  | [], dt => AW κ P d out dt L stk σ
  | (v, t) :: r, dt => (x = v → AW κ P d out t L stk σ) ∧ (¬ x = v → AWsw κ P d out L stk σ x r dt)
theorem AWsw.at {x : Int32} {dt : Nat} : ∀ {tg : List (Int32 × Nat)}, AWsw κ P d out L stk σ x tg dt → AW κ P d out (swt tg dt x) L stk σ
  | [], h => h
  | (v, t) :: r, h => by
    unfold swt
    split
    · rename_i e
      exact h.1 e
    · rename_i e
      exact AWsw.at (h.2 e)
def tchk (pc : Nat) (dflt lo hi : Int) (offs : Array Int) (tg : List (Int32 × Nat)) (dt : Nat) : Bool :=
  decide (tg = offs.toList.mapIdx (fun i o => (Int32.ofInt (lo + (i : Int)), ((pc : Int) + o).toNat))) && decide (∀ o ∈ offs.toList, 0 ≤ (pc : Int) + o) && decide ((pc : Int) + dflt = (dt : Int)) && decide (hi = lo + (offs.toList.length : Int) - 1) && decide (-2 ^ 31 ≤ lo) && decide (hi < 2 ^ 31)
theorem aw_table {dflt lo hi : Int} {offs : Array Int} {len dt : Nat} {x : Int32} (hd : decode P.2.1 pc = .ok (.tableswitch dflt lo hi offs, len)) (tg : List (Int32 × Nat)) (hc : tchk pc dflt lo hi offs tg dt = true) (k : AWsw κ P d out L r σ x tg dt) : AW κ P d out pc L (aI x :: r) σ := by
  unfold tchk at hc
  simp only [Bool.and_eq_true, decide_eq_true_eq] at hc
  obtain ⟨⟨⟨⟨⟨h1, h2⟩, h3⟩, h4⟩, h5⟩, h6⟩ := hc
  refine aw_step (pc' := swt tg dt x) (L' := L) (stk' := r) (σ' := σ) (fun hP hR ok => ⟨fun l p e s m args below meth c D ids ad A H locs ls Q F hW hD hS hl kk => ?_, ok.1, ok.2.1, (okd ok.2.2).2⟩) k.at
  have kk := kk H locs ls hW hD hS hl
  by_cases hlo : x.toInt < lo
  · refine lv_tableOut F.1 F.2.1 hd (Or.inl hlo) h3 ?_
    rw [swt_miss] at kk
    · exact kk
    · intro q hq e
      rw [h1] at hq
      obtain ⟨i, hi2⟩ := List.mem_iff_getElem?.mp hq
      rw [List.getElem?_mapIdx] at hi2
      cases ho : offs.toList[i]? with
      | none => rw [ho] at hi2; simp at hi2
      | some o =>
        rw [ho] at hi2
        simp only [Option.map_some, Option.some.injEq] at hi2
        have hlt := (List.getElem?_eq_some_iff.mp ho).1
        rw [← hi2] at e
        dsimp only at e
        rw [← e, Int32.toInt_ofInt_of_le (by omega) (by omega)] at hlo
        omega
  by_cases hhi : hi < x.toInt
  · refine lv_tableOut F.1 F.2.1 hd (Or.inr hhi) h3 ?_
    rw [swt_miss] at kk
    · exact kk
    · intro q hq e
      rw [h1] at hq
      obtain ⟨i, hi2⟩ := List.mem_iff_getElem?.mp hq
      rw [List.getElem?_mapIdx] at hi2
      cases ho : offs.toList[i]? with
      | none => rw [ho] at hi2; simp at hi2
      | some o =>
        rw [ho] at hi2
        simp only [Option.map_some, Option.some.injEq] at hi2
        have hlt := (List.getElem?_eq_some_iff.mp ho).1
        rw [← hi2] at e
        dsimp only at e
        rw [← e, Int32.toInt_ofInt_of_le (by omega) (by omega)] at hhi
        omega
  · have hi0 : (x.toInt - lo).toNat < offs.toList.length := by omega
    obtain ⟨o, ho⟩ : ∃ o, offs.toList[(x.toInt - lo).toNat]? = some o := ⟨_, List.getElem?_eq_getElem hi0⟩
    have ho2 : 0 ≤ (pc : Int) + o := h2 o (List.mem_of_getElem? ho)
    refine lv_tableIn F.1 F.2.1 hd hlo hhi (off := o) (by rw [← Array.getElem?_toList]; exact ho) (tgt := ((pc : Int) + o).toNat) (by omega) ?_
    rw [swt_hit (i := (x.toInt - lo).toNat) (t := ((pc : Int) + o).toNat)] at kk
    · exact kk
    · rw [h1, List.getElem?_mapIdx, ho]
      have e1 : lo + ((x.toInt - lo).toNat : Int) = x.toInt := by omega
      simp only [Option.map_some]
      rw [e1, Int32.ofInt_toInt]
    · intro j hj q hq e
      rw [h1, List.getElem?_mapIdx] at hq
      cases hoj : offs.toList[j]? with
      | none => rw [hoj] at hq; simp at hq
      | some oj =>
        rw [hoj] at hq
        simp only [Option.map_some, Option.some.injEq] at hq
        rw [← hq] at e
        dsimp only at e
        have e2 := congrArg Int32.toInt e
        rw [Int32.toInt_ofInt_of_le (by omega) (by omega)] at e2
        omega
def kchk (pc : Nat) (dflt : Int) (ps : Array (Int × Int)) (tg : List (Int32 × Nat)) (dt : Nat) : Bool :=
  decide (tg.map (fun q => (q.1.toInt, (q.2 : Int))) = ps.toList.map (fun q => (q.1, (pc : Int) + q.2))) && decide ((pc : Int) + dflt = (dt : Int)) && (ps.toList.zip (ps.toList.drop 1)).all (fun (a, next) => a.1 < next.1)
theorem swt_lk {pc dt : Nat} {dflt : Int} {x : Int32} (h3 : (pc : Int) + dflt = (dt : Int)) : ∀ (tg : List (Int32 × Nat)) (ps : List (Int × Int)), tg.map (fun q => (q.1.toInt, (q.2 : Int))) = ps.map (fun q => (q.1, (pc : Int) + q.2)) → (pc : Int) + Op.lookupswitch.offset ps dflt x.toInt = (swt tg dt x : Int)
  | [], [], _ => h3
  | [], _ :: _, h => by simp at h
  | _ :: _, [], h => by simp at h
  | (v, t) :: r, (a, o) :: r2, h => by
    simp only [List.map_cons, List.cons.injEq, Prod.mk.injEq] at h
    rw [Op.lookupswitch.offset_cons, swt]
    by_cases e : x = v
    · subst e
      rw [if_pos h.1.1.symm, if_pos rfl]
      exact h.1.2.symm
    · rw [if_neg e, if_neg (fun q => e (Int32.toInt_inj.mp (by rw [h.1.1]; exact q.symm)))]
      exact swt_lk h3 r r2 h.2
theorem aw_lookup {dflt : Int} {ps : Array (Int × Int)} {len dt : Nat} {x : Int32} (hd : decode P.2.1 pc = .ok (.lookupswitch dflt ps, len)) (tg : List (Int32 × Nat)) (hc : kchk pc dflt ps tg dt = true) (k : AWsw κ P d out L r σ x tg dt) : AW κ P d out pc L (aI x :: r) σ := by
  unfold kchk at hc
  simp only [Bool.and_eq_true, decide_eq_true_eq] at hc
  obtain ⟨⟨h1, h3⟩, h4⟩ := hc
  exact aw_step (fun hP hR ok => ⟨fun l p e s m args below meth c D ids ad A H locs ls Q F hW hD hS hl kk => lv_lookup F.1 F.2.1 hd h4 rfl (swt_lk h3 tg ps.toList h1) (kk H locs ls hW hD hS hl), ok.1, ok.2.1, (okd ok.2.2).2⟩) k.at
/-! returns -/
theorem aq_of {ids : Ids} {D : va_G} {ad : Nat → Nat} {A : Nat → Prop} {s t : State} {H : Heap} {locs : List Loc} {args : Array Value} {ov : Option AV} {v : Option Value} (hv : ov.map (cv ad) = v) (hK : va_K D acl (atys ids) s) (hW : va_P D acl (aW ids ad κ σ) H) (hS : va_S A s.heap H locs) (ht : t.heap = H) (hw : s.WarmedH t.vm) : aQ ids D ad κ A (ov, σ) args s (.returned v) t :=
  ⟨⟨by rw [← hv], by rw [ht]; exact hW, va_K.moved hw.alike hK⟩, hS.F ht⟩
theorem aw_iret {x : Int32} (hr : P.2.2.2.1 = some .int) (hd : decode P.2.1 pc = .ok (.ireturn, 1)) : AW κ P d (some (aI x), σ) pc L [aI x] σ := fun hP hR h1 h2 h3 =>
  ⟨⟨h1, fun v hv => by cases hv; trivial⟩, fun l p e s m args below meth c D ids ad A H locs ls F hW hD hS hl => by
    obtain ⟨hx, hb, hrr, hml, hown, hts, hlk, hK, hA⟩ := F
    exact W.iret hx hb (by rw [hrr, hr]) (fun t ht hw => aq_of rfl hK hW hS ht hw) hS.2.2 hd hlk⟩
theorem aw_zret {x : Int32} (hr : P.2.2.2.1 = some .boolean) (hz : bz x = true) (hd : decode P.2.1 pc = .ok (.ireturn, 1)) : AW κ P d (some (aI x), σ) pc L [aI x] σ := fun hP hR h1 h2 h3 =>
  ⟨⟨h1, fun v hv => by cases hv; trivial⟩, fun l p e s m args below meth c D ids ad A H locs ls F hW hD hS hl => by
    obtain ⟨hx, hb, hrr, hml, hown, hts, hlk, hK, hA⟩ := F
    exact W.zret hx hb (by rw [hrr, hr]) (bz_nar hz).1 (fun t ht hw => aq_of rfl hK hW hS ht hw) hS.2.2 hd (hlocks := hlk)⟩
theorem aw_cret {x : Int32} (hr : P.2.2.2.1 = some .char) (hz : narrow .char (.int x) = .int x) (hd : decode P.2.1 pc = .ok (.ireturn, 1)) : AW κ P d (some (aI x), σ) pc L [aI x] σ := fun hP hR h1 h2 h3 =>
  ⟨⟨h1, fun v hv => by cases hv; trivial⟩, fun l p e s m args below meth c D ids ad A H locs ls F hW hD hS hl => by
    obtain ⟨hx, hb, hrr, hml, hown, hts, hlk, hK, hA⟩ := F
    exact W.zret hx hb (by rw [hrr, hr]) hz (fun t ht hw => aq_of rfl hK hW hS ht hw) hS.2.2 hd (hlocks := hlk)⟩
theorem aw_bret {x : Int32} (hr : P.2.2.2.1 = some .byte) (hz : narrow .byte (.int x) = .int x) (hd : decode P.2.1 pc = .ok (.ireturn, 1)) : AW κ P d (some (aI x), σ) pc L [aI x] σ := fun hP hR h1 h2 h3 =>
  ⟨⟨h1, fun v hv => by cases hv; trivial⟩, fun l p e s m args below meth c D ids ad A H locs ls F hW hD hS hl => by
    obtain ⟨hx, hb, hrr, hml, hown, hts, hlk, hK, hA⟩ := F
    exact W.zret hx hb (by rw [hrr, hr]) hz (fun t ht hw => aq_of rfl hK hW hS ht hw) hS.2.2 hd (hlocks := hlk)⟩
theorem aw_lret {x : Int64} (hr : P.2.2.2.1 = some .long) (hd : decode P.2.1 pc = .ok (.lreturn, 1)) : AW κ P d (some (aL x), σ) pc L [aL x] σ := fun hP hR h1 h2 h3 =>
  ⟨⟨h1, fun v hv => by cases hv; trivial⟩, fun l p e s m args below meth c D ids ad A H locs ls F hW hD hS hl => by
    obtain ⟨hx, hb, hrr, hml, hown, hts, hlk, hK, hA⟩ := F
    exact W.lret hx hb (by rw [hrr, hr]) (fun t ht hw => aq_of rfl hK hW hS ht hw) hS.2.2 hd (hlocks := hlk)⟩
theorem aw_vret (hr : P.2.2.2.1 = none) (hd : decode P.2.1 pc = .ok (.return_, 1)) : AW κ P d (none, σ) pc L [] σ := fun hP hR h1 h2 h3 =>
  ⟨⟨h1, fun v hv => by cases hv⟩, fun l p e s m args below meth c D ids ad A H locs ls F hW hD hS hl => by
    obtain ⟨hx, hb, hrr, hml, hown, hts, hlk, hK, hA⟩ := F
    exact W.vret hx hb (by rw [hrr, hr]) (fun t ht hw => aq_of rfl hK hW hS ht hw) hS.2.2 hd (hlocks := hlk)⟩
theorem aw_aret {x : Option (Nat × Nat × Nat)} {cn : String} (hr : P.2.2.2.1 = some (.object cn)) (hd : decode P.2.1 pc = .ok (.areturn, 1)) : AW κ P d (some (.inr (.inr x)), σ) pc L [.inr (.inr x)] σ := fun hP hR h1 h2 h3 =>
  ⟨⟨h1, fun v hv => by cases hv; exact (okd h3).1⟩, fun l p e s m args below meth c D ids ad A H locs ls F hW hD hS hl => by
    obtain ⟨hx, hb, hrr, hml, hown, hts, hlk, hK, hA⟩ := F
    exact W.aret hx hb (by rw [hrr, hr]) (Or.inl ⟨cn, rfl⟩) (v := cv ad (.inr (.inr x))) (by cases x with | none => exact Or.inl rfl | some q => exact Or.inr ⟨_, rfl⟩) (fun t ht hw => aq_of rfl hK hW hS ht hw) hS.2.2 hd (hlocks := hlk)⟩
end AWRULES

