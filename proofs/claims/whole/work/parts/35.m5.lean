/-! printed by wip/whole/gen4.py from the class file: warmest, leaves, kept, all, heapOf, parts, setAside, putBack, foretold, out, layFars, far, odd, lowOf, isJoined, least, layPairs, round -/
def f_X12_warmest_38  (rec_6 : Int32 → Int32 → Int32 → Sg → Option (Int32 × Sg)) (v1 : Int32) (v2 : Int32) (v3 : Int32) (σ : Sg) : Option (Int32 × Sg) :=
  rec_6 v1 v2 (v3 + 1) σ
set_option maxRecDepth 100000 in
set_option maxHeartbeats 4000000 in
theorem ok_X12_warmest_38 {κ : Kd}   {rec_6 : Int32 → Int32 → Int32 → Sg → Option (Int32 × Sg)} (hrec_6 : ∀ (v1 : Int32) (v2 : Int32) (v3 : Int32) (σ : Sg) (q : (Int32 × Sg)), rec_6 v1 v2 v3 σ = some q → AW κ pX12_warmest 2 (some (aI q.1), q.2) 6 [some (aR 12 0 0), some (aI v1), some (aI v2), some (aI v3)] [] σ) : ∀ (v1 : Int32) (v2 : Int32) (v3 : Int32) (σ : Sg) (q : (Int32 × Sg)), f_X12_warmest_38 rec_6 v1 v2 v3 σ = some q → AW κ pX12_warmest 2 (some (aI q.1), q.2) 38 [some (aR 12 0 0), some (aI v1), some (aI v2), some (aI v3)] [] σ := by
  intro v1 v2 v3 σ q h
  unfold f_X12_warmest_38 at h
  refine aw_seq [(.iinc 3 1, 3, (axI 1))] (pc' := 41) (L' := [some (aR 12 0 0), some (aI v1), some (aI v2), some (aI (v3 + 1))]) (stk' := []) (σ' := σ) (g := []) (by decide +kernel) rfl rfl ?_
  refine aw_goto (off := (-35)) (tgt := 6) (by decide +kernel) (by decide) ?_
  refine aw_forget (L' := [some (aR 12 0 0), some (aI v1), some (aI v2), some (aI (v3 + 1))]) (lsub_s (lsub_s (lsub_s (lsub_s (lsub_0))))) ?_
  exact hrec_6 v1 v2 (v3 + 1) σ _ h
def f_X12_warmest_6   : Nat → Int32 → Int32 → Int32 → Sg → Option (Int32 × Sg)
  | 0, _, _, _, _ => none
  | fu + 1, v1, v2, v3, σ =>
    grd (inb 0 1986 && true) <|
    if (σ.1 1 (ix 0)) ≤ v3 then (
      some (v1, σ)
    ) else (
      bnd (f_X12_get v3 1 σ) fun r3 σ2 =>
      if v2 < r3 then (
        bnd (f_X12_get v3 1 σ2) fun r6 σ5 =>
        f_X12_warmest_38 (f_X12_warmest_6 fu) v3 r6 v3 σ5
      ) else (
        f_X12_warmest_38 (f_X12_warmest_6 fu) v1 v2 v3 σ2
      )
    )
set_option maxRecDepth 100000 in
set_option maxHeartbeats 4000000 in
theorem ok_X12_warmest_6 {κ : Kd}    : ∀ (fu : Nat) (v1 : Int32) (v2 : Int32) (v3 : Int32) (σ : Sg) (q : (Int32 × Sg)), f_X12_warmest_6 fu v1 v2 v3 σ = some q → AW κ pX12_warmest 2 (some (aI q.1), q.2) 6 [some (aR 12 0 0), some (aI v1), some (aI v2), some (aI v3)] [] σ := by
  intro fu
  induction fu with
  | zero =>
    intro v1 v2 v3 σ q h
    unfold f_X12_warmest_6 at h
    cases h
  | succ fu ih =>
    intro v1 v2 v3 σ q h
    unfold f_X12_warmest_6 at h
    obtain ⟨hg, h⟩ := grd_some h
    refine aw_seq [(.iload_n 3, 1, ax0), (.aload_n 0, 1, ax0), (.getfield 7, 3, (axF 12 0 (2, 1, 13, some 1986))), (.iconst 0, 1, (axI 0)), (.iaload, 1, ax0)] (pc' := 13) (L' := [some (aR 12 0 0), some (aI v1), some (aI v2), some (aI v3)]) (stk' := [aI (σ.1 1 (ix 0)), aI v3]) (σ' := σ) (g := [inb 0 1986]) (by decide +kernel) rfl hg ?_
    refine aw_icmp_ge (off := 31) (tgt := 44) (by decide +kernel) (by decide) (fun c1 => ?_) (fun c1 => ?_)
    · rw [if_pos c1] at h
      refine aw_seq [(.iload_n 1, 1, ax0)] (pc' := 45) (L' := [some (aR 12 0 0), some (aI v1), some (aI v2), some (aI v3)]) (stk' := [aI v1]) (σ' := σ) (g := []) (by decide +kernel) rfl rfl ?_
      cases h
      exact aw_iret rfl (by decide +kernel)
    · rw [if_neg c1] at h
      refine aw_seq [(.aload_n 0, 1, ax0), (.iload_n 3, 1, ax0), (.iconst 1, 1, (axI 1))] (pc' := 19) (L' := [some (aR 12 0 0), some (aI v1), some (aI v2), some (aI v3)]) (stk' := [aI 1, aI v3, aR 12 0 0]) (σ' := σ) (g := []) (by decide +kernel) rfl rfl ?_
      obtain ⟨r3, σ2, h1, h⟩ := bnd_some h
      refine aw_cV (P' := pX12_get) (idx := 77) (d' := 1) (c := 12) (n := 0) (k := 0) [aI v3, aI 1] [] (ov := (some (aI r3))) (stk2 := [aI r3]) okp_X12_get (by decide +kernel) ml_RX12_77 vok_X12_get (by decide) rfl nar_X12_get (by decide) rfl (Nat.le_of_ble_eq_true rfl) (ok_X12_get h1) rfl ?_
      refine aw_seq [(.iload_n 2, 1, ax0)] (pc' := 23) (L' := [some (aR 12 0 0), some (aI v1), some (aI v2), some (aI v3)]) (stk' := [aI v2, aI r3]) (σ' := σ2) (g := []) (by decide +kernel) rfl rfl ?_
      refine aw_icmp_gt (off := 6) (tgt := 29) (by decide +kernel) (by decide) (fun c1 => ?_) (fun c1 => ?_)
      · rw [if_pos c1] at h
        refine aw_seq [(.aload_n 0, 1, ax0), (.iload_n 3, 1, ax0), (.iconst 1, 1, (axI 1))] (pc' := 32) (L' := [some (aR 12 0 0), some (aI v1), some (aI v2), some (aI v3)]) (stk' := [aI 1, aI v3, aR 12 0 0]) (σ' := σ2) (g := []) (by decide +kernel) rfl rfl ?_
        obtain ⟨r6, σ5, h4, h⟩ := bnd_some h
        refine aw_cV (P' := pX12_get) (idx := 77) (d' := 1) (c := 12) (n := 0) (k := 0) [aI v3, aI 1] [] (ov := (some (aI r6))) (stk2 := [aI r6]) okp_X12_get (by decide +kernel) ml_RX12_77 vok_X12_get (by decide) rfl nar_X12_get (by decide) rfl (Nat.le_of_ble_eq_true rfl) (ok_X12_get h4) rfl ?_
        refine aw_seq [(.istore_n 2, 1, ax0), (.iload_n 3, 1, ax0), (.istore_n 1, 1, ax0)] (pc' := 38) (L' := [some (aR 12 0 0), some (aI v3), some (aI r6), some (aI v3)]) (stk' := []) (σ' := σ5) (g := []) (by decide +kernel) rfl rfl ?_
        refine aw_forget (L' := [some (aR 12 0 0), some (aI v3), some (aI r6), some (aI v3)]) (lsub_s (lsub_s (lsub_s (lsub_s (lsub_0))))) ?_
        exact ok_X12_warmest_38 ih v3 r6 v3 σ5 _ h
      · rw [if_neg c1] at h
        refine aw_goto (off := 12) (tgt := 38) (by decide +kernel) (by decide) ?_
        refine aw_forget (L' := [some (aR 12 0 0), some (aI v1), some (aI v2), some (aI v3)]) (lsub_s (lsub_s (lsub_s (lsub_s (lsub_0))))) ?_
        exact ok_X12_warmest_38 ih v1 v2 v3 σ2 _ h
def f_X12_warmest  (σ : Sg) : Option (Int32 × Sg) :=
  f_X12_warmest_6 FU (-1) 0 0 σ
set_option maxRecDepth 100000 in
set_option maxHeartbeats 4000000 in
theorem ok_X12_warmest {κ : Kd}  {σ : Sg} {q : (Int32 × Sg)} (h : f_X12_warmest σ = some q) : AMet κ pX12_warmest 2 [aR 12 0 0] σ (some (aI q.1), q.2) := by
  unfold f_X12_warmest at h
  refine amet_of okp_X12_warmest [(false, aR 12 0 0)] (List.forall_mem_cons.mpr ⟨rfl, (fun _ hn => absurd hn List.not_mem_nil)⟩) 3 rfl ?_
  show AW κ pX12_warmest 2 (some (aI q.1), q.2) 0 [some (aR 12 0 0), none, none, none] [] σ
  refine aw_seq [(.iconst (-1), 1, (axI (-1))), (.istore_n 1, 1, ax0), (.iconst 0, 1, (axI 0)), (.istore_n 2, 1, ax0), (.iconst 0, 1, (axI 0)), (.istore_n 3, 1, ax0)] (pc' := 6) (L' := [some (aR 12 0 0), some (aI (-1)), some (aI 0), some (aI 0)]) (stk' := []) (σ' := σ) (g := []) (by decide +kernel) rfl rfl ?_
  refine aw_forget (L' := [some (aR 12 0 0), some (aI (-1)), some (aI 0), some (aI 0)]) (lsub_s (lsub_s (lsub_s (lsub_s (lsub_0))))) ?_
  exact ok_X12_warmest_6 FU (-1) 0 0 σ _ h
def f_X12_leaves_34  (rec_4 : Int32 → Int32 → Sg → Option (Int32 × Sg)) (v2 : Int32) (s0 : Int32) (s1 : Int32) (σ : Sg) : Option (Int32 × Sg) :=
  rec_4 (s0 ||| s1) (v2 + 1) σ
set_option maxRecDepth 100000 in
set_option maxHeartbeats 4000000 in
theorem ok_X12_leaves_34 {κ : Kd}   {rec_4 : Int32 → Int32 → Sg → Option (Int32 × Sg)} (hrec_4 : ∀ (v1 : Int32) (v2 : Int32) (σ : Sg) (q : (Int32 × Sg)), rec_4 v1 v2 σ = some q → AW κ pX12_leaves 3 (some (aI q.1), q.2) 4 [some (aR 12 0 0), some (aI v1), some (aI v2)] [] σ) : ∀ (v2 : Int32) (s0 : Int32) (s1 : Int32) (σ : Sg) (q : (Int32 × Sg)), f_X12_leaves_34 rec_4 v2 s0 s1 σ = some q → AW κ pX12_leaves 3 (some (aI q.1), q.2) 34 [some (aR 12 0 0), none, some (aI v2)] [aI s1, aI s0] σ := by
  intro v2 s0 s1 σ q h
  unfold f_X12_leaves_34 at h
  refine aw_seq [(.ior, 1, ax0), (.istore_n 1, 1, ax0), (.iinc 2 1, 3, (axI 1))] (pc' := 39) (L' := [some (aR 12 0 0), some (aI (s0 ||| s1)), some (aI (v2 + 1))]) (stk' := []) (σ' := σ) (g := []) (by decide +kernel) rfl rfl ?_
  refine aw_goto (off := (-35)) (tgt := 4) (by decide +kernel) (by decide) ?_
  refine aw_forget (L' := [some (aR 12 0 0), some (aI (s0 ||| s1)), some (aI (v2 + 1))]) (lsub_s (lsub_s (lsub_s (lsub_0)))) ?_
  exact hrec_4 (s0 ||| s1) (v2 + 1) σ _ h
def f_X12_leaves_4   : Nat → Int32 → Int32 → Sg → Option (Int32 × Sg)
  | 0, _, _, _ => none
  | fu + 1, v1, v2, σ =>
    grd (inb 0 1986 && true) <|
    if (σ.1 1 (ix 0)) ≤ v2 then (
      some (v1, σ)
    ) else (
      bnd (f_X12_beside v2 σ) fun r3 σ2 =>
      bnd (f_X12_bits r3 σ2) fun r6 σ5 =>
      if r6 = 1 then (
        f_X12_leaves_34 (f_X12_leaves_4 fu) v2 v1 (shl 1 v2) σ5
      ) else (
        f_X12_leaves_34 (f_X12_leaves_4 fu) v2 v1 0 σ5
      )
    )
set_option maxRecDepth 100000 in
set_option maxHeartbeats 4000000 in
theorem ok_X12_leaves_4 {κ : Kd}    : ∀ (fu : Nat) (v1 : Int32) (v2 : Int32) (σ : Sg) (q : (Int32 × Sg)), f_X12_leaves_4 fu v1 v2 σ = some q → AW κ pX12_leaves 3 (some (aI q.1), q.2) 4 [some (aR 12 0 0), some (aI v1), some (aI v2)] [] σ := by
  intro fu
  induction fu with
  | zero =>
    intro v1 v2 σ q h
    unfold f_X12_leaves_4 at h
    cases h
  | succ fu ih =>
    intro v1 v2 σ q h
    unfold f_X12_leaves_4 at h
    obtain ⟨hg, h⟩ := grd_some h
    refine aw_seq [(.iload_n 2, 1, ax0), (.aload_n 0, 1, ax0), (.getfield 7, 3, (axF 12 0 (2, 1, 13, some 1986))), (.iconst 0, 1, (axI 0)), (.iaload, 1, ax0)] (pc' := 11) (L' := [some (aR 12 0 0), some (aI v1), some (aI v2)]) (stk' := [aI (σ.1 1 (ix 0)), aI v2]) (σ' := σ) (g := [inb 0 1986]) (by decide +kernel) rfl hg ?_
    refine aw_icmp_ge (off := 31) (tgt := 42) (by decide +kernel) (by decide) (fun c1 => ?_) (fun c1 => ?_)
    · rw [if_pos c1] at h
      refine aw_seq [(.iload_n 1, 1, ax0)] (pc' := 43) (L' := [some (aR 12 0 0), some (aI v1), some (aI v2)]) (stk' := [aI v1]) (σ' := σ) (g := []) (by decide +kernel) rfl rfl ?_
      cases h
      exact aw_iret rfl (by decide +kernel)
    · rw [if_neg c1] at h
      refine aw_seq [(.iload_n 1, 1, ax0), (.aload_n 0, 1, ax0), (.iload_n 2, 1, ax0)] (pc' := 17) (L' := [some (aR 12 0 0), some (aI v1), some (aI v2)]) (stk' := [aI v2, aR 12 0 0, aI v1]) (σ' := σ) (g := []) (by decide +kernel) rfl rfl ?_
      obtain ⟨r3, σ2, h1, h⟩ := bnd_some h
      refine aw_cV (P' := pX12_beside) (idx := 294) (d' := 2) (c := 12) (n := 0) (k := 0) [aI v2] [aI v1] (ov := (some (aI r3))) (stk2 := [aI r3, aI v1]) okp_X12_beside (by decide +kernel) ml_RX12_294 vok_X12_beside (by decide) rfl nar_X12_beside (by decide) rfl (Nat.le_of_ble_eq_true rfl) (ok_X12_beside h1) rfl ?_
      obtain ⟨r6, σ5, h4, h⟩ := bnd_some h
      refine aw_cS (P' := pX12_bits) (idx := 300) (d' := 1) [aI r3] [aI v1] (ov := (some (aI r6))) (stk2 := [aI r6, aI v1]) okp_X12_bits (by decide +kernel) ml_RX12_300 tok_X12_bits nar_X12_bits (by decide) rfl (Nat.le_of_ble_eq_true rfl) (ok_X12_bits h4) rfl ?_
      refine aw_seq [(.iconst 1, 1, (axI 1))] (pc' := 24) (L' := [some (aR 12 0 0), some (aI v1), some (aI v2)]) (stk' := [aI 1, aI r6, aI v1]) (σ' := σ5) (g := []) (by decide +kernel) rfl rfl ?_
      refine aw_icmp_ne (off := 9) (tgt := 33) (by decide +kernel) (by decide) (fun c1 => ?_) (fun c1 => ?_)
      · rw [if_neg c1] at h
        refine aw_seq [(.iconst 0, 1, (axI 0))] (pc' := 34) (L' := [some (aR 12 0 0), some (aI v1), some (aI v2)]) (stk' := [aI 0, aI v1]) (σ' := σ5) (g := []) (by decide +kernel) rfl rfl ?_
        refine aw_forget (L' := [some (aR 12 0 0), none, some (aI v2)]) (lsub_s (lsub_n (lsub_s (lsub_0)))) ?_
        exact ok_X12_leaves_34 ih v2 v1 0 σ5 _ h
      · rw [if_pos c1] at h
        refine aw_seq [(.iconst 1, 1, (axI 1)), (.iload_n 2, 1, ax0), (.ishl, 1, ax0)] (pc' := 30) (L' := [some (aR 12 0 0), some (aI v1), some (aI v2)]) (stk' := [aI (shl 1 v2), aI v1]) (σ' := σ5) (g := []) (by decide +kernel) rfl rfl ?_
        refine aw_goto (off := 4) (tgt := 34) (by decide +kernel) (by decide) ?_
        refine aw_forget (L' := [some (aR 12 0 0), none, some (aI v2)]) (lsub_s (lsub_n (lsub_s (lsub_0)))) ?_
        exact ok_X12_leaves_34 ih v2 v1 (shl 1 v2) σ5 _ h
def f_X12_leaves  (σ : Sg) : Option (Int32 × Sg) :=
  f_X12_leaves_4 FU 0 0 σ
set_option maxRecDepth 100000 in
set_option maxHeartbeats 4000000 in
theorem ok_X12_leaves {κ : Kd}  {σ : Sg} {q : (Int32 × Sg)} (h : f_X12_leaves σ = some q) : AMet κ pX12_leaves 3 [aR 12 0 0] σ (some (aI q.1), q.2) := by
  unfold f_X12_leaves at h
  refine amet_of okp_X12_leaves [(false, aR 12 0 0)] (List.forall_mem_cons.mpr ⟨rfl, (fun _ hn => absurd hn List.not_mem_nil)⟩) 2 rfl ?_
  show AW κ pX12_leaves 3 (some (aI q.1), q.2) 0 [some (aR 12 0 0), none, none] [] σ
  refine aw_seq [(.iconst 0, 1, (axI 0)), (.istore_n 1, 1, ax0), (.iconst 0, 1, (axI 0)), (.istore_n 2, 1, ax0)] (pc' := 4) (L' := [some (aR 12 0 0), some (aI 0), some (aI 0)]) (stk' := []) (σ' := σ) (g := []) (by decide +kernel) rfl rfl ?_
  refine aw_forget (L' := [some (aR 12 0 0), some (aI 0), some (aI 0)]) (lsub_s (lsub_s (lsub_s (lsub_0)))) ?_
  exact ok_X12_leaves_4 FU 0 0 σ _ h
def f_X12_kept  (σ : Sg) : Option (Int32 × Sg) :=
  bnd (f_X12_allOf 1 σ) fun r3 σ2 =>
  bnd (f_X12_allOf 2 σ2) fun r6 σ5 =>
  some ((r3 ||| r6), σ5)
set_option maxRecDepth 100000 in
set_option maxHeartbeats 4000000 in
theorem ok_X12_kept {κ : Kd}  {σ : Sg} {q : (Int32 × Sg)} (h : f_X12_kept σ = some q) : AMet κ pX12_kept 3 [aR 12 0 0] σ (some (aI q.1), q.2) := by
  unfold f_X12_kept at h
  refine amet_of okp_X12_kept [(false, aR 12 0 0)] (List.forall_mem_cons.mpr ⟨rfl, (fun _ hn => absurd hn List.not_mem_nil)⟩) 0 rfl ?_
  show AW κ pX12_kept 3 (some (aI q.1), q.2) 0 [some (aR 12 0 0)] [] σ
  refine aw_seq [(.aload_n 0, 1, ax0), (.iconst 1, 1, (axI 1))] (pc' := 2) (L' := [some (aR 12 0 0)]) (stk' := [aI 1, aR 12 0 0]) (σ' := σ) (g := []) (by decide +kernel) rfl rfl ?_
  obtain ⟨r3, σ2, h1, h⟩ := bnd_some h
  refine aw_cV (P' := pX12_allOf) (idx := 346) (d' := 2) (c := 12) (n := 0) (k := 0) [aI 1] [] (ov := (some (aI r3))) (stk2 := [aI r3]) okp_X12_allOf (by decide +kernel) ml_RX12_346 vok_X12_allOf (by decide) rfl nar_X12_allOf (by decide) rfl (Nat.le_of_ble_eq_true rfl) (ok_X12_allOf h1) rfl ?_
  refine aw_seq [(.aload_n 0, 1, ax0), (.iconst 2, 1, (axI 2))] (pc' := 7) (L' := [some (aR 12 0 0)]) (stk' := [aI 2, aR 12 0 0, aI r3]) (σ' := σ2) (g := []) (by decide +kernel) rfl rfl ?_
  obtain ⟨r6, σ5, h4, h⟩ := bnd_some h
  refine aw_cV (P' := pX12_allOf) (idx := 346) (d' := 2) (c := 12) (n := 0) (k := 0) [aI 2] [aI r3] (ov := (some (aI r6))) (stk2 := [aI r6, aI r3]) okp_X12_allOf (by decide +kernel) ml_RX12_346 vok_X12_allOf (by decide) rfl nar_X12_allOf (by decide) rfl (Nat.le_of_ble_eq_true rfl) (ok_X12_allOf h4) rfl ?_
  refine aw_seq [(.ior, 1, ax0)] (pc' := 11) (L' := [some (aR 12 0 0)]) (stk' := [aI (r3 ||| r6)]) (σ' := σ5) (g := []) (by decide +kernel) rfl rfl ?_
  cases h
  exact aw_iret rfl (by decide +kernel)
def f_X12_all  (σ : Sg) : Option (Int32 × Sg) :=
  grd (inb 0 1986 && true) <|
  some (((shl 1 (σ.1 1 (ix 0))) - 1), σ)
set_option maxRecDepth 100000 in
set_option maxHeartbeats 4000000 in
theorem ok_X12_all {κ : Kd}  {σ : Sg} {q : (Int32 × Sg)} (h : f_X12_all σ = some q) : AMet κ pX12_all 1 [aR 12 0 0] σ (some (aI q.1), q.2) := by
  unfold f_X12_all at h
  refine amet_of okp_X12_all [(false, aR 12 0 0)] (List.forall_mem_cons.mpr ⟨rfl, (fun _ hn => absurd hn List.not_mem_nil)⟩) 0 rfl ?_
  show AW κ pX12_all 1 (some (aI q.1), q.2) 0 [some (aR 12 0 0)] [] σ
  obtain ⟨hg, h⟩ := grd_some h
  refine aw_seq [(.iconst 1, 1, (axI 1)), (.aload_n 0, 1, ax0), (.getfield 7, 3, (axF 12 0 (2, 1, 13, some 1986))), (.iconst 0, 1, (axI 0)), (.iaload, 1, ax0), (.ishl, 1, ax0), (.iconst 1, 1, (axI 1)), (.isub, 1, ax0)] (pc' := 10) (L' := [some (aR 12 0 0)]) (stk' := [aI ((shl 1 (σ.1 1 (ix 0))) - 1)]) (σ' := σ) (g := [inb 0 1986]) (by decide +kernel) rfl hg ?_
  cases h
  exact aw_iret rfl (by decide +kernel)
def f_X12_heapOf_48  (rec_17 : Int32 → Int32 → Int32 → Int32 → Sg → Option (Int32 × Sg)) (v2 : Int32) (v3 : Int32) (v4 : Int32) (v5 : Int32) (σ : Sg) : Option (Int32 × Sg) :=
  rec_17 v2 v3 v4 (v5 + 1) σ
set_option maxRecDepth 100000 in
set_option maxHeartbeats 4000000 in
theorem ok_X12_heapOf_48 {κ : Kd}   {rec_17 : Int32 → Int32 → Int32 → Int32 → Sg → Option (Int32 × Sg)} (hrec_17 : ∀ (v2 : Int32) (v3 : Int32) (v4 : Int32) (v5 : Int32) (σ : Sg) (q : (Int32 × Sg)), rec_17 v2 v3 v4 v5 σ = some q → AW κ pX12_heapOf 3 (some (aI q.1), q.2) 17 [some (aR 12 0 0), none, some (aI v2), some (aI v3), some (aI v4), some (aI v5)] [] σ) : ∀ (v2 : Int32) (v3 : Int32) (v4 : Int32) (v5 : Int32) (σ : Sg) (q : (Int32 × Sg)), f_X12_heapOf_48 rec_17 v2 v3 v4 v5 σ = some q → AW κ pX12_heapOf 3 (some (aI q.1), q.2) 48 [some (aR 12 0 0), none, some (aI v2), some (aI v3), some (aI v4), some (aI v5)] [] σ := by
  intro v2 v3 v4 v5 σ q h
  unfold f_X12_heapOf_48 at h
  refine aw_seq [(.iinc 5 1, 3, (axI 1))] (pc' := 51) (L' := [some (aR 12 0 0), none, some (aI v2), some (aI v3), some (aI v4), some (aI (v5 + 1))]) (stk' := []) (σ' := σ) (g := []) (by decide +kernel) rfl rfl ?_
  refine aw_goto (off := (-34)) (tgt := 17) (by decide +kernel) (by decide) ?_
  refine aw_forget (L' := [some (aR 12 0 0), none, some (aI v2), some (aI v3), some (aI v4), some (aI (v5 + 1))]) (lsub_s (lsub_n (lsub_s (lsub_s (lsub_s (lsub_s (lsub_0))))))) ?_
  exact hrec_17 v2 v3 v4 (v5 + 1) σ _ h
def f_X12_heapOf_17  (rec_7 : Int32 → Int32 → Int32 → Sg → Option (Int32 × Sg)) : Nat → Int32 → Int32 → Int32 → Int32 → Sg → Option (Int32 × Sg)
  | 0, _, _, _, _, _ => none
  | fu + 1, v2, v3, v4, v5, σ =>
    grd (inb 0 1986 && true) <|
    if (σ.1 1 (ix 0)) ≤ v5 then (
      rec_7 v2 v3 (v4 + 1) σ
    ) else (
      bnd (f_X12_has v3 v5 σ) fun r3 σ2 =>
      if r3 = 0 then (
        f_X12_heapOf_48 (f_X12_heapOf_17 rec_7 fu) v2 v3 v4 v5 σ2
      ) else (
        bnd (f_X12_beside v5 σ2) fun r6 σ5 =>
        f_X12_heapOf_48 (f_X12_heapOf_17 rec_7 fu) v2 (v3 ||| (r6 &&& v2)) v4 v5 σ5
      )
    )
set_option maxRecDepth 100000 in
set_option maxHeartbeats 4000000 in
theorem ok_X12_heapOf_17 {κ : Kd}   {rec_7 : Int32 → Int32 → Int32 → Sg → Option (Int32 × Sg)} (hrec_7 : ∀ (v2 : Int32) (v3 : Int32) (v4 : Int32) (σ : Sg) (q : (Int32 × Sg)), rec_7 v2 v3 v4 σ = some q → AW κ pX12_heapOf 3 (some (aI q.1), q.2) 7 [some (aR 12 0 0), none, some (aI v2), some (aI v3), some (aI v4), none] [] σ) : ∀ (fu : Nat) (v2 : Int32) (v3 : Int32) (v4 : Int32) (v5 : Int32) (σ : Sg) (q : (Int32 × Sg)), f_X12_heapOf_17 rec_7 fu v2 v3 v4 v5 σ = some q → AW κ pX12_heapOf 3 (some (aI q.1), q.2) 17 [some (aR 12 0 0), none, some (aI v2), some (aI v3), some (aI v4), some (aI v5)] [] σ := by
  intro fu
  induction fu with
  | zero =>
    intro v2 v3 v4 v5 σ q h
    unfold f_X12_heapOf_17 at h
    cases h
  | succ fu ih =>
    intro v2 v3 v4 v5 σ q h
    unfold f_X12_heapOf_17 at h
    obtain ⟨hg, h⟩ := grd_some h
    refine aw_seq [(.iload 5, 2, ax0), (.aload_n 0, 1, ax0), (.getfield 7, 3, (axF 12 0 (2, 1, 13, some 1986))), (.iconst 0, 1, (axI 0)), (.iaload, 1, ax0)] (pc' := 25) (L' := [some (aR 12 0 0), none, some (aI v2), some (aI v3), some (aI v4), some (aI v5)]) (stk' := [aI (σ.1 1 (ix 0)), aI v5]) (σ' := σ) (g := [inb 0 1986]) (by decide +kernel) rfl hg ?_
    refine aw_icmp_ge (off := 29) (tgt := 54) (by decide +kernel) (by decide) (fun c1 => ?_) (fun c1 => ?_)
    · rw [if_pos c1] at h
      refine aw_seq [(.iinc 4 1, 3, (axI 1))] (pc' := 57) (L' := [some (aR 12 0 0), none, some (aI v2), some (aI v3), some (aI (v4 + 1)), some (aI v5)]) (stk' := []) (σ' := σ) (g := []) (by decide +kernel) rfl rfl ?_
      refine aw_goto (off := (-50)) (tgt := 7) (by decide +kernel) (by decide) ?_
      refine aw_forget (L' := [some (aR 12 0 0), none, some (aI v2), some (aI v3), some (aI (v4 + 1)), none]) (lsub_s (lsub_n (lsub_s (lsub_s (lsub_s (lsub_n (lsub_0))))))) ?_
      exact hrec_7 v2 v3 (v4 + 1) σ _ h
    · rw [if_neg c1] at h
      refine aw_seq [(.iload_n 3, 1, ax0), (.iload 5, 2, ax0)] (pc' := 31) (L' := [some (aR 12 0 0), none, some (aI v2), some (aI v3), some (aI v4), some (aI v5)]) (stk' := [aI v5, aI v3]) (σ' := σ) (g := []) (by decide +kernel) rfl rfl ?_
      obtain ⟨r3, σ2, h1, h⟩ := bnd_some h
      refine aw_cS (P' := pX12_has) (idx := 250) (d' := 1) [aI v3, aI v5] [] (ov := (some (aI r3))) (stk2 := [aI r3]) okp_X12_has (by decide +kernel) ml_RX12_250 tok_X12_has nar_X12_has (by decide) rfl (Nat.le_of_ble_eq_true rfl) (ok_X12_has h1) rfl ?_
      refine aw_if_eq (off := 14) (tgt := 48) (by decide +kernel) (by decide) (fun c1 => ?_) (fun c1 => ?_)
      · rw [if_pos c1] at h
        refine aw_forget (L' := [some (aR 12 0 0), none, some (aI v2), some (aI v3), some (aI v4), some (aI v5)]) (lsub_s (lsub_n (lsub_s (lsub_s (lsub_s (lsub_s (lsub_0))))))) ?_
        exact ok_X12_heapOf_48 ih v2 v3 v4 v5 σ2 _ h
      · rw [if_neg c1] at h
        refine aw_seq [(.iload_n 3, 1, ax0), (.aload_n 0, 1, ax0), (.iload 5, 2, ax0)] (pc' := 41) (L' := [some (aR 12 0 0), none, some (aI v2), some (aI v3), some (aI v4), some (aI v5)]) (stk' := [aI v5, aR 12 0 0, aI v3]) (σ' := σ2) (g := []) (by decide +kernel) rfl rfl ?_
        obtain ⟨r6, σ5, h4, h⟩ := bnd_some h
        refine aw_cV (P' := pX12_beside) (idx := 294) (d' := 2) (c := 12) (n := 0) (k := 0) [aI v5] [aI v3] (ov := (some (aI r6))) (stk2 := [aI r6, aI v3]) okp_X12_beside (by decide +kernel) ml_RX12_294 vok_X12_beside (by decide) rfl nar_X12_beside (by decide) rfl (Nat.le_of_ble_eq_true rfl) (ok_X12_beside h4) rfl ?_
        refine aw_seq [(.iload_n 2, 1, ax0), (.iand, 1, ax0), (.ior, 1, ax0), (.istore_n 3, 1, ax0)] (pc' := 48) (L' := [some (aR 12 0 0), none, some (aI v2), some (aI (v3 ||| (r6 &&& v2))), some (aI v4), some (aI v5)]) (stk' := []) (σ' := σ5) (g := []) (by decide +kernel) rfl rfl ?_
        refine aw_forget (L' := [some (aR 12 0 0), none, some (aI v2), some (aI (v3 ||| (r6 &&& v2))), some (aI v4), some (aI v5)]) (lsub_s (lsub_n (lsub_s (lsub_s (lsub_s (lsub_s (lsub_0))))))) ?_
        exact ok_X12_heapOf_48 ih v2 (v3 ||| (r6 &&& v2)) v4 v5 σ5 _ h
def f_X12_heapOf_7   : Nat → Int32 → Int32 → Int32 → Sg → Option (Int32 × Sg)
  | 0, _, _, _, _ => none
  | fu + 1, v2, v3, v4, σ =>
    if 8 ≤ v4 then (
      some (v3, σ)
    ) else (
      f_X12_heapOf_17 (f_X12_heapOf_7 fu) FU v2 v3 v4 0 σ
    )
set_option maxRecDepth 100000 in
set_option maxHeartbeats 4000000 in
theorem ok_X12_heapOf_7 {κ : Kd}    : ∀ (fu : Nat) (v2 : Int32) (v3 : Int32) (v4 : Int32) (σ : Sg) (q : (Int32 × Sg)), f_X12_heapOf_7 fu v2 v3 v4 σ = some q → AW κ pX12_heapOf 3 (some (aI q.1), q.2) 7 [some (aR 12 0 0), none, some (aI v2), some (aI v3), some (aI v4), none] [] σ := by
  intro fu
  induction fu with
  | zero =>
    intro v2 v3 v4 σ q h
    unfold f_X12_heapOf_7 at h
    cases h
  | succ fu ih =>
    intro v2 v3 v4 σ q h
    unfold f_X12_heapOf_7 at h
    refine aw_seq [(.iload 4, 2, ax0), (.bipush 8, 2, (axI 8))] (pc' := 11) (L' := [some (aR 12 0 0), none, some (aI v2), some (aI v3), some (aI v4), none]) (stk' := [aI 8, aI v4]) (σ' := σ) (g := []) (by decide +kernel) rfl rfl ?_
    refine aw_icmp_ge (off := 49) (tgt := 60) (by decide +kernel) (by decide) (fun c1 => ?_) (fun c1 => ?_)
    · rw [if_pos c1] at h
      refine aw_seq [(.iload_n 3, 1, ax0)] (pc' := 61) (L' := [some (aR 12 0 0), none, some (aI v2), some (aI v3), some (aI v4), none]) (stk' := [aI v3]) (σ' := σ) (g := []) (by decide +kernel) rfl rfl ?_
      cases h
      exact aw_iret rfl (by decide +kernel)
    · rw [if_neg c1] at h
      refine aw_seq [(.iconst 0, 1, (axI 0)), (.istore 5, 2, ax0)] (pc' := 17) (L' := [some (aR 12 0 0), none, some (aI v2), some (aI v3), some (aI v4), some (aI 0)]) (stk' := []) (σ' := σ) (g := []) (by decide +kernel) rfl rfl ?_
      refine aw_forget (L' := [some (aR 12 0 0), none, some (aI v2), some (aI v3), some (aI v4), some (aI 0)]) (lsub_s (lsub_n (lsub_s (lsub_s (lsub_s (lsub_s (lsub_0))))))) ?_
      exact ok_X12_heapOf_17 ih FU v2 v3 v4 0 σ _ h
def f_X12_heapOf (v1 : Int32) (v2 : Int32) (σ : Sg) : Option (Int32 × Sg) :=
  f_X12_heapOf_7 FU v2 (shl 1 v1) 0 σ
set_option maxRecDepth 100000 in
set_option maxHeartbeats 4000000 in
theorem ok_X12_heapOf {κ : Kd} {v1 : Int32} {v2 : Int32} {σ : Sg} {q : (Int32 × Sg)} (h : f_X12_heapOf v1 v2 σ = some q) : AMet κ pX12_heapOf 3 [aR 12 0 0, aI v1, aI v2] σ (some (aI q.1), q.2) := by
  unfold f_X12_heapOf at h
  refine amet_of okp_X12_heapOf [(false, aR 12 0 0), (false, aI v1), (false, aI v2)] (List.forall_mem_cons.mpr ⟨rfl, List.forall_mem_cons.mpr ⟨rfl, List.forall_mem_cons.mpr ⟨rfl, (fun _ hn => absurd hn List.not_mem_nil)⟩⟩⟩) 3 rfl ?_
  show AW κ pX12_heapOf 3 (some (aI q.1), q.2) 0 [some (aR 12 0 0), some (aI v1), some (aI v2), none, none, none] [] σ
  refine aw_seq [(.iconst 1, 1, (axI 1)), (.iload_n 1, 1, ax0), (.ishl, 1, ax0), (.istore_n 3, 1, ax0), (.iconst 0, 1, (axI 0)), (.istore 4, 2, ax0)] (pc' := 7) (L' := [some (aR 12 0 0), some (aI v1), some (aI v2), some (aI (shl 1 v1)), some (aI 0), none]) (stk' := []) (σ' := σ) (g := []) (by decide +kernel) rfl rfl ?_
  refine aw_forget (L' := [some (aR 12 0 0), none, some (aI v2), some (aI (shl 1 v1)), some (aI 0), none]) (lsub_s (lsub_n (lsub_s (lsub_s (lsub_s (lsub_n (lsub_0))))))) ?_
  exact ok_X12_heapOf_7 FU v2 (shl 1 v1) 0 σ _ h
def f_X12_parts_47  (rec_9 : Int32 → Int32 → Int32 → Sg → Option (Int32 × Sg)) (v1 : Int32) (v2 : Int32) (v3 : Int32) (σ : Sg) : Option (Int32 × Sg) :=
  rec_9 v1 v2 (v3 + 1) σ
set_option maxRecDepth 100000 in
set_option maxHeartbeats 4000000 in
theorem ok_X12_parts_47 {κ : Kd}   {rec_9 : Int32 → Int32 → Int32 → Sg → Option (Int32 × Sg)} (hrec_9 : ∀ (v1 : Int32) (v2 : Int32) (v3 : Int32) (σ : Sg) (q : (Int32 × Sg)), rec_9 v1 v2 v3 σ = some q → AW κ pX12_parts 4 (some (aI q.1), q.2) 9 [some (aR 12 0 0), some (aI v1), some (aI v2), some (aI v3)] [] σ) : ∀ (v1 : Int32) (v2 : Int32) (v3 : Int32) (σ : Sg) (q : (Int32 × Sg)), f_X12_parts_47 rec_9 v1 v2 v3 σ = some q → AW κ pX12_parts 4 (some (aI q.1), q.2) 47 [some (aR 12 0 0), some (aI v1), some (aI v2), some (aI v3)] [] σ := by
  intro v1 v2 v3 σ q h
  unfold f_X12_parts_47 at h
  refine aw_seq [(.iinc 3 1, 3, (axI 1))] (pc' := 50) (L' := [some (aR 12 0 0), some (aI v1), some (aI v2), some (aI (v3 + 1))]) (stk' := []) (σ' := σ) (g := []) (by decide +kernel) rfl rfl ?_
  refine aw_goto (off := (-41)) (tgt := 9) (by decide +kernel) (by decide) ?_
  refine aw_forget (L' := [some (aR 12 0 0), some (aI v1), some (aI v2), some (aI (v3 + 1))]) (lsub_s (lsub_s (lsub_s (lsub_s (lsub_0))))) ?_
  exact hrec_9 v1 v2 (v3 + 1) σ _ h
def f_X12_parts_9   : Nat → Int32 → Int32 → Int32 → Sg → Option (Int32 × Sg)
  | 0, _, _, _, _ => none
  | fu + 1, v1, v2, v3, σ =>
    grd (inb 0 1986 && true) <|
    if (σ.1 1 (ix 0)) ≤ v3 then (
      some (v1, σ)
    ) else (
      bnd (f_X12_has v2 v3 σ) fun r3 σ2 =>
      if r3 = 0 then (
        f_X12_parts_47 (f_X12_parts_9 fu) v1 v2 v3 σ2
      ) else (
        bnd (f_X12_all σ2) fun r6 σ5 =>
        bnd (f_X12_heapOf v3 r6 σ5) fun r9 σ8 =>
        f_X12_parts_47 (f_X12_parts_9 fu) (v1 + 1) (v2 &&& (r9 ^^^ (-1))) v3 σ8
      )
    )
set_option maxRecDepth 100000 in
set_option maxHeartbeats 4000000 in
theorem ok_X12_parts_9 {κ : Kd}    : ∀ (fu : Nat) (v1 : Int32) (v2 : Int32) (v3 : Int32) (σ : Sg) (q : (Int32 × Sg)), f_X12_parts_9 fu v1 v2 v3 σ = some q → AW κ pX12_parts 4 (some (aI q.1), q.2) 9 [some (aR 12 0 0), some (aI v1), some (aI v2), some (aI v3)] [] σ := by
  intro fu
  induction fu with
  | zero =>
    intro v1 v2 v3 σ q h
    unfold f_X12_parts_9 at h
    cases h
  | succ fu ih =>
    intro v1 v2 v3 σ q h
    unfold f_X12_parts_9 at h
    obtain ⟨hg, h⟩ := grd_some h
    refine aw_seq [(.iload_n 3, 1, ax0), (.aload_n 0, 1, ax0), (.getfield 7, 3, (axF 12 0 (2, 1, 13, some 1986))), (.iconst 0, 1, (axI 0)), (.iaload, 1, ax0)] (pc' := 16) (L' := [some (aR 12 0 0), some (aI v1), some (aI v2), some (aI v3)]) (stk' := [aI (σ.1 1 (ix 0)), aI v3]) (σ' := σ) (g := [inb 0 1986]) (by decide +kernel) rfl hg ?_
    refine aw_icmp_ge (off := 37) (tgt := 53) (by decide +kernel) (by decide) (fun c1 => ?_) (fun c1 => ?_)
    · rw [if_pos c1] at h
      refine aw_seq [(.iload_n 1, 1, ax0)] (pc' := 54) (L' := [some (aR 12 0 0), some (aI v1), some (aI v2), some (aI v3)]) (stk' := [aI v1]) (σ' := σ) (g := []) (by decide +kernel) rfl rfl ?_
      cases h
      exact aw_iret rfl (by decide +kernel)
    · rw [if_neg c1] at h
      refine aw_seq [(.iload_n 2, 1, ax0), (.iload_n 3, 1, ax0)] (pc' := 21) (L' := [some (aR 12 0 0), some (aI v1), some (aI v2), some (aI v3)]) (stk' := [aI v3, aI v2]) (σ' := σ) (g := []) (by decide +kernel) rfl rfl ?_
      obtain ⟨r3, σ2, h1, h⟩ := bnd_some h
      refine aw_cS (P' := pX12_has) (idx := 250) (d' := 1) [aI v2, aI v3] [] (ov := (some (aI r3))) (stk2 := [aI r3]) okp_X12_has (by decide +kernel) ml_RX12_250 tok_X12_has nar_X12_has (by decide) rfl (Nat.le_of_ble_eq_true rfl) (ok_X12_has h1) rfl ?_
      refine aw_if_ne (off := 6) (tgt := 30) (by decide +kernel) (by decide) (fun c1 => ?_) (fun c1 => ?_)
      · rw [if_neg c1] at h
        refine aw_seq [(.iinc 1 1, 3, (axI 1)), (.iload_n 2, 1, ax0), (.aload_n 0, 1, ax0), (.iload_n 3, 1, ax0), (.aload_n 0, 1, ax0)] (pc' := 37) (L' := [some (aR 12 0 0), some (aI (v1 + 1)), some (aI v2), some (aI v3)]) (stk' := [aR 12 0 0, aI v3, aR 12 0 0, aI v2]) (σ' := σ2) (g := []) (by decide +kernel) rfl rfl ?_
        obtain ⟨r6, σ5, h4, h⟩ := bnd_some h
        refine aw_cV (P' := pX12_all) (idx := 418) (d' := 1) (c := 12) (n := 0) (k := 0) [] [aI v3, aR 12 0 0, aI v2] (ov := (some (aI r6))) (stk2 := [aI r6, aI v3, aR 12 0 0, aI v2]) okp_X12_all (by decide +kernel) ml_RX12_418 vok_X12_all (by decide) rfl nar_X12_all (by decide) rfl (Nat.le_of_ble_eq_true rfl) (ok_X12_all h4) rfl ?_
        obtain ⟨r9, σ8, h7, h⟩ := bnd_some h
        refine aw_cV (P' := pX12_heapOf) (idx := 421) (d' := 3) (c := 12) (n := 0) (k := 0) [aI v3, aI r6] [aI v2] (ov := (some (aI r9))) (stk2 := [aI r9, aI v2]) okp_X12_heapOf (by decide +kernel) ml_RX12_421 vok_X12_heapOf (by decide) rfl nar_X12_heapOf (by decide) rfl (Nat.le_of_ble_eq_true rfl) (ok_X12_heapOf h7) rfl ?_
        refine aw_seq [(.iconst (-1), 1, (axI (-1))), (.ixor, 1, ax0), (.iand, 1, ax0), (.istore_n 2, 1, ax0)] (pc' := 47) (L' := [some (aR 12 0 0), some (aI (v1 + 1)), some (aI (v2 &&& (r9 ^^^ (-1)))), some (aI v3)]) (stk' := []) (σ' := σ8) (g := []) (by decide +kernel) rfl rfl ?_
        refine aw_forget (L' := [some (aR 12 0 0), some (aI (v1 + 1)), some (aI (v2 &&& (r9 ^^^ (-1)))), some (aI v3)]) (lsub_s (lsub_s (lsub_s (lsub_s (lsub_0))))) ?_
        exact ok_X12_parts_47 ih (v1 + 1) (v2 &&& (r9 ^^^ (-1))) v3 σ8 _ h
      · rw [if_pos c1] at h
        refine aw_goto (off := 20) (tgt := 47) (by decide +kernel) (by decide) ?_
        refine aw_forget (L' := [some (aR 12 0 0), some (aI v1), some (aI v2), some (aI v3)]) (lsub_s (lsub_s (lsub_s (lsub_s (lsub_0))))) ?_
        exact ok_X12_parts_47 ih v1 v2 v3 σ2 _ h
def f_X12_parts  (σ : Sg) : Option (Int32 × Sg) :=
  bnd (f_X12_all σ) fun r12 σ11 =>
  f_X12_parts_9 FU 0 r12 0 σ11
set_option maxRecDepth 100000 in
set_option maxHeartbeats 4000000 in
theorem ok_X12_parts {κ : Kd}  {σ : Sg} {q : (Int32 × Sg)} (h : f_X12_parts σ = some q) : AMet κ pX12_parts 4 [aR 12 0 0] σ (some (aI q.1), q.2) := by
  unfold f_X12_parts at h
  refine amet_of okp_X12_parts [(false, aR 12 0 0)] (List.forall_mem_cons.mpr ⟨rfl, (fun _ hn => absurd hn List.not_mem_nil)⟩) 3 rfl ?_
  show AW κ pX12_parts 4 (some (aI q.1), q.2) 0 [some (aR 12 0 0), none, none, none] [] σ
  refine aw_seq [(.iconst 0, 1, (axI 0)), (.istore_n 1, 1, ax0), (.aload_n 0, 1, ax0)] (pc' := 3) (L' := [some (aR 12 0 0), some (aI 0), none, none]) (stk' := [aR 12 0 0]) (σ' := σ) (g := []) (by decide +kernel) rfl rfl ?_
  obtain ⟨r12, σ11, h10, h⟩ := bnd_some h
  refine aw_cV (P' := pX12_all) (idx := 418) (d' := 1) (c := 12) (n := 0) (k := 0) [] [] (ov := (some (aI r12))) (stk2 := [aI r12]) okp_X12_all (by decide +kernel) ml_RX12_418 vok_X12_all (by decide) rfl nar_X12_all (by decide) rfl (Nat.le_of_ble_eq_true rfl) (ok_X12_all h10) rfl ?_
  refine aw_seq [(.istore_n 2, 1, ax0), (.iconst 0, 1, (axI 0)), (.istore_n 3, 1, ax0)] (pc' := 9) (L' := [some (aR 12 0 0), some (aI 0), some (aI r12), some (aI 0)]) (stk' := []) (σ' := σ11) (g := []) (by decide +kernel) rfl rfl ?_
  refine aw_forget (L' := [some (aR 12 0 0), some (aI 0), some (aI r12), some (aI 0)]) (lsub_s (lsub_s (lsub_s (lsub_s (lsub_0))))) ?_
  exact ok_X12_parts_9 FU 0 r12 0 σ11 _ h
def f_X12_setAside_3   : Nat → Int32 → Sg → Option Sg
  | 0, _, _ => none
  | fu + 1, v1, σ =>
    if 50 ≤ v1 then (
      grd (bz 0 && true) <|
      ltσ (wI σ 0 24 0) fun σ1 =>
      some σ1
    ) else (
      grd (inb v1 1986 && (inb v1 50 && true)) <|
      ltσ (wI σ 9 (ix v1) (σ.1 1 (ix v1))) fun σ3 =>
      (f_X12_setAside_3 fu) (v1 + 1) σ3
    )
set_option maxRecDepth 100000 in
set_option maxHeartbeats 4000000 in
theorem ok_X12_setAside_3 {κ : Kd}    : ∀ (fu : Nat) (v1 : Int32) (σ : Sg) (q : Sg), f_X12_setAside_3 fu v1 σ = some q → AW κ pX12_setAside 1 (none, q) 3 [some (aR 12 0 0), some (aI v1)] [] σ := by
  intro fu
  induction fu with
  | zero =>
    intro v1 σ q h
    unfold f_X12_setAside_3 at h
    cases h
  | succ fu ih =>
    intro v1 σ q h
    unfold f_X12_setAside_3 at h
    refine aw_seq [(.iload_n 1, 1, ax0), (.bipush 50, 2, (axI 50))] (pc' := 6) (L' := [some (aR 12 0 0), some (aI v1)]) (stk' := [aI 50, aI v1]) (σ' := σ) (g := []) (by decide +kernel) rfl rfl ?_
    refine aw_icmp_ge (off := 21) (tgt := 27) (by decide +kernel) (by decide) (fun c1 => ?_) (fun c1 => ?_)
    · rw [if_pos c1] at h
      obtain ⟨hg, h⟩ := grd_some h
      obtain ⟨σ1, e2, h⟩ := ltσ_some h
      refine aw_seq [(.aload_n 0, 1, ax0), (.iconst 0, 1, (axI 0)), (.putfield 43, 3, (axF 12 24 (3, 0, 0, none)))] (pc' := 32) (L' := [some (aR 12 0 0), some (aI v1)]) (stk' := []) (σ' := σ1) (g := [bz 0]) (by decide +kernel) (by rw [e2]; rfl) hg ?_
      cases h
      exact aw_vret rfl (by decide +kernel)
    · rw [if_neg c1] at h
      obtain ⟨hg, h⟩ := grd_some h
      obtain ⟨σ3, e4, h⟩ := ltσ_some h
      refine aw_seq [(.aload_n 0, 1, ax0), (.getfield 47, 3, (axF 12 26 (2, 9, 13, some 50))), (.iload_n 1, 1, ax0), (.aload_n 0, 1, ax0), (.getfield 7, 3, (axF 12 0 (2, 1, 13, some 1986))), (.iload_n 1, 1, ax0), (.iaload, 1, ax0), (.iastore, 1, ax0)] (pc' := 21) (L' := [some (aR 12 0 0), some (aI v1)]) (stk' := []) (σ' := σ3) (g := [inb v1 1986, inb v1 50]) (by decide +kernel) (by rw [e4]; rfl) hg ?_
      refine aw_seq [(.iinc 1 1, 3, (axI 1))] (pc' := 24) (L' := [some (aR 12 0 0), some (aI (v1 + 1))]) (stk' := []) (σ' := σ3) (g := []) (by decide +kernel) rfl rfl ?_
      refine aw_goto (off := (-21)) (tgt := 3) (by decide +kernel) (by decide) ?_
      refine aw_forget (L' := [some (aR 12 0 0), some (aI (v1 + 1))]) (lsub_s (lsub_s (lsub_0))) ?_
      exact ih (v1 + 1) σ3 _ h
def f_X12_setAside  (σ : Sg) : Option Sg :=
  f_X12_setAside_3 FU 6 σ
set_option maxRecDepth 100000 in
set_option maxHeartbeats 4000000 in
theorem ok_X12_setAside {κ : Kd}  {σ : Sg} {q : Sg} (h : f_X12_setAside σ = some q) : AMet κ pX12_setAside 1 [aR 12 0 0] σ (none, q) := by
  unfold f_X12_setAside at h
  refine amet_of okp_X12_setAside [(false, aR 12 0 0)] (List.forall_mem_cons.mpr ⟨rfl, (fun _ hn => absurd hn List.not_mem_nil)⟩) 1 rfl ?_
  show AW κ pX12_setAside 1 (none, q) 0 [some (aR 12 0 0), none] [] σ
  refine aw_seq [(.bipush 6, 2, (axI 6)), (.istore_n 1, 1, ax0)] (pc' := 3) (L' := [some (aR 12 0 0), some (aI 6)]) (stk' := []) (σ' := σ) (g := []) (by decide +kernel) rfl rfl ?_
  refine aw_forget (L' := [some (aR 12 0 0), some (aI 6)]) (lsub_s (lsub_s (lsub_0))) ?_
  exact ok_X12_setAside_3 FU 6 σ _ h
def f_X12_putBack_3   : Nat → Int32 → Sg → Option Sg
  | 0, _, _ => none
  | fu + 1, v1, σ =>
    if 50 ≤ v1 then (
      grd (bz 1 && true) <|
      ltσ (wI σ 0 24 1) fun σ1 =>
      some σ1
    ) else (
      grd (inb v1 50 && (inb v1 1986 && true)) <|
      ltσ (wI σ 1 (ix v1) (σ.1 9 (ix v1))) fun σ3 =>
      (f_X12_putBack_3 fu) (v1 + 1) σ3
    )
set_option maxRecDepth 100000 in
set_option maxHeartbeats 4000000 in
theorem ok_X12_putBack_3 {κ : Kd}    : ∀ (fu : Nat) (v1 : Int32) (σ : Sg) (q : Sg), f_X12_putBack_3 fu v1 σ = some q → AW κ pX12_putBack 1 (none, q) 3 [some (aR 12 0 0), some (aI v1)] [] σ := by
  intro fu
  induction fu with
  | zero =>
    intro v1 σ q h
    unfold f_X12_putBack_3 at h
    cases h
  | succ fu ih =>
    intro v1 σ q h
    unfold f_X12_putBack_3 at h
    refine aw_seq [(.iload_n 1, 1, ax0), (.bipush 50, 2, (axI 50))] (pc' := 6) (L' := [some (aR 12 0 0), some (aI v1)]) (stk' := [aI 50, aI v1]) (σ' := σ) (g := []) (by decide +kernel) rfl rfl ?_
    refine aw_icmp_ge (off := 21) (tgt := 27) (by decide +kernel) (by decide) (fun c1 => ?_) (fun c1 => ?_)
    · rw [if_pos c1] at h
      obtain ⟨hg, h⟩ := grd_some h
      obtain ⟨σ1, e2, h⟩ := ltσ_some h
      refine aw_seq [(.aload_n 0, 1, ax0), (.iconst 1, 1, (axI 1)), (.putfield 43, 3, (axF 12 24 (3, 0, 0, none)))] (pc' := 32) (L' := [some (aR 12 0 0), some (aI v1)]) (stk' := []) (σ' := σ1) (g := [bz 1]) (by decide +kernel) (by rw [e2]; rfl) hg ?_
      cases h
      exact aw_vret rfl (by decide +kernel)
    · rw [if_neg c1] at h
      obtain ⟨hg, h⟩ := grd_some h
      obtain ⟨σ3, e4, h⟩ := ltσ_some h
      refine aw_seq [(.aload_n 0, 1, ax0), (.getfield 7, 3, (axF 12 0 (2, 1, 13, some 1986))), (.iload_n 1, 1, ax0), (.aload_n 0, 1, ax0), (.getfield 47, 3, (axF 12 26 (2, 9, 13, some 50))), (.iload_n 1, 1, ax0), (.iaload, 1, ax0), (.iastore, 1, ax0)] (pc' := 21) (L' := [some (aR 12 0 0), some (aI v1)]) (stk' := []) (σ' := σ3) (g := [inb v1 50, inb v1 1986]) (by decide +kernel) (by rw [e4]; rfl) hg ?_
      refine aw_seq [(.iinc 1 1, 3, (axI 1))] (pc' := 24) (L' := [some (aR 12 0 0), some (aI (v1 + 1))]) (stk' := []) (σ' := σ3) (g := []) (by decide +kernel) rfl rfl ?_
      refine aw_goto (off := (-21)) (tgt := 3) (by decide +kernel) (by decide) ?_
      refine aw_forget (L' := [some (aR 12 0 0), some (aI (v1 + 1))]) (lsub_s (lsub_s (lsub_0))) ?_
      exact ih (v1 + 1) σ3 _ h
def f_X12_putBack  (σ : Sg) : Option Sg :=
  f_X12_putBack_3 FU 6 σ
set_option maxRecDepth 100000 in
set_option maxHeartbeats 4000000 in
theorem ok_X12_putBack {κ : Kd}  {σ : Sg} {q : Sg} (h : f_X12_putBack σ = some q) : AMet κ pX12_putBack 1 [aR 12 0 0] σ (none, q) := by
  unfold f_X12_putBack at h
  refine amet_of okp_X12_putBack [(false, aR 12 0 0)] (List.forall_mem_cons.mpr ⟨rfl, (fun _ hn => absurd hn List.not_mem_nil)⟩) 1 rfl ?_
  show AW κ pX12_putBack 1 (none, q) 0 [some (aR 12 0 0), none] [] σ
  refine aw_seq [(.bipush 6, 2, (axI 6)), (.istore_n 1, 1, ax0)] (pc' := 3) (L' := [some (aR 12 0 0), some (aI 6)]) (stk' := []) (σ' := σ) (g := []) (by decide +kernel) rfl rfl ?_
  refine aw_forget (L' := [some (aR 12 0 0), some (aI 6)]) (lsub_s (lsub_s (lsub_0))) ?_
  exact ok_X12_putBack_3 FU 6 σ _ h
def f_X12_foretold_32    (σ : Sg) : Option (Int32 × Sg) :=
  some ((-1), σ)
set_option maxRecDepth 100000 in
set_option maxHeartbeats 4000000 in
theorem ok_X12_foretold_32 {κ : Kd}    : ∀  (σ : Sg) (q : (Int32 × Sg)), f_X12_foretold_32  σ = some q → AW κ pX12_foretold 9 (some (aI q.1), q.2) 32 [none, none, none, none, none] [] σ := by
  intro  σ q h
  unfold f_X12_foretold_32 at h
  refine aw_seq [(.iconst (-1), 1, (axI (-1)))] (pc' := 33) (L' := [none, none, none, none, none]) (stk' := [aI (-1)]) (σ' := σ) (g := []) (by decide +kernel) rfl rfl ?_
  cases h
  exact aw_iret rfl (by decide +kernel)
def f_X12_foretold_64  (rec_41 : Int32 → Int32 → Int32 → Int32 → Sg → Option (Int32 × Sg)) (v1 : Int32) (v2 : Int32) (v3 : Int32) (v4 : Int32) (σ : Sg) : Option (Int32 × Sg) :=
  rec_41 v1 v2 v3 (v4 + 1) σ
set_option maxRecDepth 100000 in
set_option maxHeartbeats 4000000 in
theorem ok_X12_foretold_64 {κ : Kd}   {rec_41 : Int32 → Int32 → Int32 → Int32 → Sg → Option (Int32 × Sg)} (hrec_41 : ∀ (v1 : Int32) (v2 : Int32) (v3 : Int32) (v4 : Int32) (σ : Sg) (q : (Int32 × Sg)), rec_41 v1 v2 v3 v4 σ = some q → AW κ pX12_foretold 9 (some (aI q.1), q.2) 41 [some (aR 12 0 0), some (aI v1), some (aI v2), some (aI v3), some (aI v4)] [] σ) : ∀ (v1 : Int32) (v2 : Int32) (v3 : Int32) (v4 : Int32) (σ : Sg) (q : (Int32 × Sg)), f_X12_foretold_64 rec_41 v1 v2 v3 v4 σ = some q → AW κ pX12_foretold 9 (some (aI q.1), q.2) 64 [some (aR 12 0 0), some (aI v1), some (aI v2), some (aI v3), some (aI v4)] [] σ := by
  intro v1 v2 v3 v4 σ q h
  unfold f_X12_foretold_64 at h
  refine aw_seq [(.iinc 4 1, 3, (axI 1))] (pc' := 67) (L' := [some (aR 12 0 0), some (aI v1), some (aI v2), some (aI v3), some (aI (v4 + 1))]) (stk' := []) (σ' := σ) (g := []) (by decide +kernel) rfl rfl ?_
  refine aw_goto (off := (-26)) (tgt := 41) (by decide +kernel) (by decide) ?_
  refine aw_forget (L' := [some (aR 12 0 0), some (aI v1), some (aI v2), some (aI v3), some (aI (v4 + 1))]) (lsub_s (lsub_s (lsub_s (lsub_s (lsub_s (lsub_0)))))) ?_
  exact hrec_41 v1 v2 v3 (v4 + 1) σ _ h
def f_X12_foretold_92   (s0 : Int32) (σ : Sg) : Option (Int32 × Sg) :=
  bndV (f_X12_putBack σ) fun σ2 =>
  some (s0, σ2)
set_option maxRecDepth 100000 in
set_option maxHeartbeats 4000000 in
theorem ok_X12_foretold_92 {κ : Kd}    : ∀ (s0 : Int32) (σ : Sg) (q : (Int32 × Sg)), f_X12_foretold_92 s0 σ = some q → AW κ pX12_foretold 9 (some (aI q.1), q.2) 92 [some (aR 12 0 0), none, none, none, none] [aI s0] σ := by
  intro s0 σ q h
  unfold f_X12_foretold_92 at h
  refine aw_seq [(.istore 4, 2, ax0), (.aload_n 0, 1, ax0)] (pc' := 95) (L' := [some (aR 12 0 0), none, none, none, some (aI s0)]) (stk' := [aR 12 0 0]) (σ' := σ) (g := []) (by decide +kernel) rfl rfl ?_
  obtain ⟨σ2, h1, h⟩ := bndV_some h
  refine aw_cV (P' := pX12_putBack) (idx := 427) (d' := 1) (c := 12) (n := 0) (k := 0) [] [] (ov := none) (stk2 := []) okp_X12_putBack (by decide +kernel) ml_RX12_427 vok_X12_putBack (by decide) rfl nar_X12_putBack (by decide) rfl (Nat.le_of_ble_eq_true rfl) (ok_X12_putBack h1) rfl ?_
  refine aw_seq [(.iload 4, 2, ax0)] (pc' := 100) (L' := [some (aR 12 0 0), none, none, none, some (aI s0)]) (stk' := [aI s0]) (σ' := σ2) (g := []) (by decide +kernel) rfl rfl ?_
  cases h
  exact aw_iret rfl (by decide +kernel)
def f_X12_foretold_41   : Nat → Int32 → Int32 → Int32 → Int32 → Sg → Option (Int32 × Sg)
  | 0, _, _, _, _, _ => none
  | fu + 1, v1, v2, v3, v4, σ =>
    if v1 ≤ v4 then (
      if v3 = 2 then (
        bnd (f_X12_allOf 4 σ) fun r8 σ7 =>
        bnd (f_X12_bits r8 σ7) fun r11 σ10 =>
        f_X12_foretold_92 r11 σ10
      ) else (
        bnd (f_X12_get v2 v3 σ) fun r5 σ4 =>
        f_X12_foretold_92 r5 σ4
      )
    ) else (
      grd (inb 6 1986 && true) <|
      if 9999 ≤ (σ.1 1 (ix 6)) then (
        f_X12_foretold_64 (f_X12_foretold_41 fu) v1 v2 v3 v4 σ
      ) else (
        bndV (f_X12_pass σ) fun σ13 =>
        f_X12_foretold_64 (f_X12_foretold_41 fu) v1 v2 v3 v4 σ13
      )
    )
set_option maxRecDepth 100000 in
set_option maxHeartbeats 4000000 in
theorem ok_X12_foretold_41 {κ : Kd}    : ∀ (fu : Nat) (v1 : Int32) (v2 : Int32) (v3 : Int32) (v4 : Int32) (σ : Sg) (q : (Int32 × Sg)), f_X12_foretold_41 fu v1 v2 v3 v4 σ = some q → AW κ pX12_foretold 9 (some (aI q.1), q.2) 41 [some (aR 12 0 0), some (aI v1), some (aI v2), some (aI v3), some (aI v4)] [] σ := by
  intro fu
  induction fu with
  | zero =>
    intro v1 v2 v3 v4 σ q h
    unfold f_X12_foretold_41 at h
    cases h
  | succ fu ih =>
    intro v1 v2 v3 v4 σ q h
    unfold f_X12_foretold_41 at h
    refine aw_seq [(.iload 4, 2, ax0), (.iload_n 1, 1, ax0)] (pc' := 44) (L' := [some (aR 12 0 0), some (aI v1), some (aI v2), some (aI v3), some (aI v4)]) (stk' := [aI v1, aI v4]) (σ' := σ) (g := []) (by decide +kernel) rfl rfl ?_
    refine aw_icmp_ge (off := 26) (tgt := 70) (by decide +kernel) (by decide) (fun c1 => ?_) (fun c1 => ?_)
    · rw [if_pos c1] at h
      refine aw_seq [(.iload_n 3, 1, ax0), (.iconst 2, 1, (axI 2))] (pc' := 72) (L' := [some (aR 12 0 0), some (aI v1), some (aI v2), some (aI v3), some (aI v4)]) (stk' := [aI 2, aI v3]) (σ' := σ) (g := []) (by decide +kernel) rfl rfl ?_
      refine aw_icmp_ne (off := 14) (tgt := 86) (by decide +kernel) (by decide) (fun c1 => ?_) (fun c1 => ?_)
      · rw [if_neg c1] at h
        refine aw_seq [(.aload_n 0, 1, ax0), (.iload_n 2, 1, ax0), (.iload_n 3, 1, ax0)] (pc' := 89) (L' := [some (aR 12 0 0), some (aI v1), some (aI v2), some (aI v3), some (aI v4)]) (stk' := [aI v3, aI v2, aR 12 0 0]) (σ' := σ) (g := []) (by decide +kernel) rfl rfl ?_
        obtain ⟨r5, σ4, h3, h⟩ := bnd_some h
        refine aw_cV (P' := pX12_get) (idx := 77) (d' := 1) (c := 12) (n := 0) (k := 0) [aI v2, aI v3] [] (ov := (some (aI r5))) (stk2 := [aI r5]) okp_X12_get (by decide +kernel) ml_RX12_77 vok_X12_get (by decide) rfl nar_X12_get (by decide) rfl (Nat.le_of_ble_eq_true rfl) (ok_X12_get h3) rfl ?_
        refine aw_forget (L' := [some (aR 12 0 0), none, none, none, none]) (lsub_s (lsub_n (lsub_n (lsub_n (lsub_n (lsub_0)))))) ?_
        exact ok_X12_foretold_92 r5 σ4 _ h
      · rw [if_pos c1] at h
        refine aw_seq [(.aload_n 0, 1, ax0), (.iconst 4, 1, (axI 4))] (pc' := 77) (L' := [some (aR 12 0 0), some (aI v1), some (aI v2), some (aI v3), some (aI v4)]) (stk' := [aI 4, aR 12 0 0]) (σ' := σ) (g := []) (by decide +kernel) rfl rfl ?_
        obtain ⟨r8, σ7, h6, h⟩ := bnd_some h
        refine aw_cV (P' := pX12_allOf) (idx := 346) (d' := 2) (c := 12) (n := 0) (k := 0) [aI 4] [] (ov := (some (aI r8))) (stk2 := [aI r8]) okp_X12_allOf (by decide +kernel) ml_RX12_346 vok_X12_allOf (by decide) rfl nar_X12_allOf (by decide) rfl (Nat.le_of_ble_eq_true rfl) (ok_X12_allOf h6) rfl ?_
        obtain ⟨r11, σ10, h9, h⟩ := bnd_some h
        refine aw_cS (P' := pX12_bits) (idx := 300) (d' := 1) [aI r8] [] (ov := (some (aI r11))) (stk2 := [aI r11]) okp_X12_bits (by decide +kernel) ml_RX12_300 tok_X12_bits nar_X12_bits (by decide) rfl (Nat.le_of_ble_eq_true rfl) (ok_X12_bits h9) rfl ?_
        refine aw_goto (off := 9) (tgt := 92) (by decide +kernel) (by decide) ?_
        refine aw_forget (L' := [some (aR 12 0 0), none, none, none, none]) (lsub_s (lsub_n (lsub_n (lsub_n (lsub_n (lsub_0)))))) ?_
        exact ok_X12_foretold_92 r11 σ10 _ h
    · rw [if_neg c1] at h
      obtain ⟨hg, h⟩ := grd_some h
      refine aw_seq [(.aload_n 0, 1, ax0), (.getfield 7, 3, (axF 12 0 (2, 1, 13, some 1986))), (.bipush 6, 2, (axI 6)), (.iaload, 1, ax0), (.sipush 9999, 3, (axI 9999))] (pc' := 57) (L' := [some (aR 12 0 0), some (aI v1), some (aI v2), some (aI v3), some (aI v4)]) (stk' := [aI 9999, aI (σ.1 1 (ix 6))]) (σ' := σ) (g := [inb 6 1986]) (by decide +kernel) rfl hg ?_
      refine aw_icmp_ge (off := 7) (tgt := 64) (by decide +kernel) (by decide) (fun c1 => ?_) (fun c1 => ?_)
      · rw [if_pos c1] at h
        refine aw_forget (L' := [some (aR 12 0 0), some (aI v1), some (aI v2), some (aI v3), some (aI v4)]) (lsub_s (lsub_s (lsub_s (lsub_s (lsub_s (lsub_0)))))) ?_
        exact ok_X12_foretold_64 ih v1 v2 v3 v4 σ _ h
      · rw [if_neg c1] at h
        refine aw_seq [(.aload_n 0, 1, ax0)] (pc' := 61) (L' := [some (aR 12 0 0), some (aI v1), some (aI v2), some (aI v3), some (aI v4)]) (stk' := [aR 12 0 0]) (σ' := σ) (g := []) (by decide +kernel) rfl rfl ?_
        obtain ⟨σ13, h12, h⟩ := bndV_some h
        refine aw_cV (P' := pX12_pass) (idx := 379) (d' := 8) (c := 12) (n := 0) (k := 0) [] [] (ov := none) (stk2 := []) okp_X12_pass (by decide +kernel) ml_RX12_379 vok_X12_pass (by decide) rfl nar_X12_pass (by decide) rfl (Nat.le_of_ble_eq_true rfl) (ok_X12_pass h12) rfl ?_
        refine aw_forget (L' := [some (aR 12 0 0), some (aI v1), some (aI v2), some (aI v3), some (aI v4)]) (lsub_s (lsub_s (lsub_s (lsub_s (lsub_s (lsub_0)))))) ?_
        exact ok_X12_foretold_64 ih v1 v2 v3 v4 σ13 _ h
def f_X12_foretold_34   (v1 : Int32) (v2 : Int32) (v3 : Int32) (σ : Sg) : Option (Int32 × Sg) :=
  bndV (f_X12_setAside σ) fun σ15 =>
  f_X12_foretold_41 FU v1 v2 v3 0 σ15
set_option maxRecDepth 100000 in
set_option maxHeartbeats 4000000 in
theorem ok_X12_foretold_34 {κ : Kd}    : ∀ (v1 : Int32) (v2 : Int32) (v3 : Int32) (σ : Sg) (q : (Int32 × Sg)), f_X12_foretold_34 v1 v2 v3 σ = some q → AW κ pX12_foretold 9 (some (aI q.1), q.2) 34 [some (aR 12 0 0), some (aI v1), some (aI v2), some (aI v3), none] [] σ := by
  intro v1 v2 v3 σ q h
  unfold f_X12_foretold_34 at h
  refine aw_seq [(.aload_n 0, 1, ax0)] (pc' := 35) (L' := [some (aR 12 0 0), some (aI v1), some (aI v2), some (aI v3), none]) (stk' := [aR 12 0 0]) (σ' := σ) (g := []) (by decide +kernel) rfl rfl ?_
  obtain ⟨σ15, h14, h⟩ := bndV_some h
  refine aw_cV (P' := pX12_setAside) (idx := 424) (d' := 1) (c := 12) (n := 0) (k := 0) [] [] (ov := none) (stk2 := []) okp_X12_setAside (by decide +kernel) ml_RX12_424 vok_X12_setAside (by decide) rfl nar_X12_setAside (by decide) rfl (Nat.le_of_ble_eq_true rfl) (ok_X12_setAside h14) rfl ?_
  refine aw_seq [(.iconst 0, 1, (axI 0)), (.istore 4, 2, ax0)] (pc' := 41) (L' := [some (aR 12 0 0), some (aI v1), some (aI v2), some (aI v3), some (aI 0)]) (stk' := []) (σ' := σ15) (g := []) (by decide +kernel) rfl rfl ?_
  refine aw_forget (L' := [some (aR 12 0 0), some (aI v1), some (aI v2), some (aI v3), some (aI 0)]) (lsub_s (lsub_s (lsub_s (lsub_s (lsub_s (lsub_0)))))) ?_
  exact ok_X12_foretold_41 FU v1 v2 v3 0 σ15 _ h
def f_X12_foretold (v1 : Int32) (v2 : Int32) (v3 : Int32) (σ : Sg) : Option (Int32 × Sg) :=
  bnd (f_X12_isIn v1 1 60 σ) fun r18 σ17 =>
  if r18 = 0 then (
    f_X12_foretold_32 σ17
  ) else (
    bnd (f_X12_isIn v3 0 2 σ17) fun r21 σ20 =>
    if r21 = 0 then (
      f_X12_foretold_32 σ20
    ) else (
      if 2 ≤ v3 then (
        f_X12_foretold_34 v1 v2 v3 σ20
      ) else (
        bnd (f_X12_isHouse v2 σ20) fun r24 σ23 =>
        if r24 = 0 then (
          f_X12_foretold_32 σ23
        ) else (
          f_X12_foretold_34 v1 v2 v3 σ23
        )
      )
    )
  )
set_option maxRecDepth 100000 in
set_option maxHeartbeats 4000000 in
theorem ok_X12_foretold {κ : Kd} {v1 : Int32} {v2 : Int32} {v3 : Int32} {σ : Sg} {q : (Int32 × Sg)} (h : f_X12_foretold v1 v2 v3 σ = some q) : AMet κ pX12_foretold 9 [aR 12 0 0, aI v1, aI v2, aI v3] σ (some (aI q.1), q.2) := by
  unfold f_X12_foretold at h
  refine amet_of okp_X12_foretold [(false, aR 12 0 0), (false, aI v1), (false, aI v2), (false, aI v3)] (List.forall_mem_cons.mpr ⟨rfl, List.forall_mem_cons.mpr ⟨rfl, List.forall_mem_cons.mpr ⟨rfl, List.forall_mem_cons.mpr ⟨rfl, (fun _ hn => absurd hn List.not_mem_nil)⟩⟩⟩⟩) 1 rfl ?_
  show AW κ pX12_foretold 9 (some (aI q.1), q.2) 0 [some (aR 12 0 0), some (aI v1), some (aI v2), some (aI v3), none] [] σ
  refine aw_seq [(.iload_n 1, 1, ax0), (.iconst 1, 1, (axI 1)), (.bipush 60, 2, (axI 60))] (pc' := 4) (L' := [some (aR 12 0 0), some (aI v1), some (aI v2), some (aI v3), none]) (stk' := [aI 60, aI 1, aI v1]) (σ' := σ) (g := []) (by decide +kernel) rfl rfl ?_
  obtain ⟨r18, σ17, h16, h⟩ := bnd_some h
  refine aw_cS (P' := pX12_isIn) (idx := 69) (d' := 1) [aI v1, aI 1, aI 60] [] (ov := (some (aI r18))) (stk2 := [aI r18]) okp_X12_isIn (by decide +kernel) ml_RX12_69 tok_X12_isIn nar_X12_isIn (by decide) rfl (Nat.le_of_ble_eq_true rfl) (ok_X12_isIn h16) rfl ?_
  refine aw_if_eq (off := 25) (tgt := 32) (by decide +kernel) (by decide) (fun c1 => ?_) (fun c1 => ?_)
  · rw [if_pos c1] at h
    refine aw_forget (L' := [none, none, none, none, none]) (lsub_n (lsub_n (lsub_n (lsub_n (lsub_n (lsub_0)))))) ?_
    exact ok_X12_foretold_32 σ17 _ h
  · rw [if_neg c1] at h
    refine aw_seq [(.iload_n 3, 1, ax0), (.iconst 0, 1, (axI 0)), (.iconst 2, 1, (axI 2))] (pc' := 13) (L' := [some (aR 12 0 0), some (aI v1), some (aI v2), some (aI v3), none]) (stk' := [aI 2, aI 0, aI v3]) (σ' := σ17) (g := []) (by decide +kernel) rfl rfl ?_
    obtain ⟨r21, σ20, h19, h⟩ := bnd_some h
    refine aw_cS (P' := pX12_isIn) (idx := 69) (d' := 1) [aI v3, aI 0, aI 2] [] (ov := (some (aI r21))) (stk2 := [aI r21]) okp_X12_isIn (by decide +kernel) ml_RX12_69 tok_X12_isIn nar_X12_isIn (by decide) rfl (Nat.le_of_ble_eq_true rfl) (ok_X12_isIn h19) rfl ?_
    refine aw_if_eq (off := 16) (tgt := 32) (by decide +kernel) (by decide) (fun c1 => ?_) (fun c1 => ?_)
    · rw [if_pos c1] at h
      refine aw_forget (L' := [none, none, none, none, none]) (lsub_n (lsub_n (lsub_n (lsub_n (lsub_n (lsub_0)))))) ?_
      exact ok_X12_foretold_32 σ20 _ h
    · rw [if_neg c1] at h
      refine aw_seq [(.iload_n 3, 1, ax0), (.iconst 2, 1, (axI 2))] (pc' := 21) (L' := [some (aR 12 0 0), some (aI v1), some (aI v2), some (aI v3), none]) (stk' := [aI 2, aI v3]) (σ' := σ20) (g := []) (by decide +kernel) rfl rfl ?_
      refine aw_icmp_ge (off := 13) (tgt := 34) (by decide +kernel) (by decide) (fun c1 => ?_) (fun c1 => ?_)
      · rw [if_pos c1] at h
        refine aw_forget (L' := [some (aR 12 0 0), some (aI v1), some (aI v2), some (aI v3), none]) (lsub_s (lsub_s (lsub_s (lsub_s (lsub_n (lsub_0)))))) ?_
        exact ok_X12_foretold_34 v1 v2 v3 σ20 _ h
      · rw [if_neg c1] at h
        refine aw_seq [(.aload_n 0, 1, ax0), (.iload_n 2, 1, ax0)] (pc' := 26) (L' := [some (aR 12 0 0), some (aI v1), some (aI v2), some (aI v3), none]) (stk' := [aI v2, aR 12 0 0]) (σ' := σ20) (g := []) (by decide +kernel) rfl rfl ?_
        obtain ⟨r24, σ23, h22, h⟩ := bnd_some h
        refine aw_cV (P' := pX12_isHouse) (idx := 88) (d' := 2) (c := 12) (n := 0) (k := 0) [aI v2] [] (ov := (some (aI r24))) (stk2 := [aI r24]) okp_X12_isHouse (by decide +kernel) ml_RX12_88 vok_X12_isHouse (by decide) rfl nar_X12_isHouse (by decide) rfl (Nat.le_of_ble_eq_true rfl) (ok_X12_isHouse h22) rfl ?_
        refine aw_if_ne (off := 5) (tgt := 34) (by decide +kernel) (by decide) (fun c1 => ?_) (fun c1 => ?_)
        · rw [if_neg c1] at h
          refine aw_forget (L' := [some (aR 12 0 0), some (aI v1), some (aI v2), some (aI v3), none]) (lsub_s (lsub_s (lsub_s (lsub_s (lsub_n (lsub_0)))))) ?_
          exact ok_X12_foretold_34 v1 v2 v3 σ23 _ h
        · rw [if_pos c1] at h
          refine aw_forget (L' := [none, none, none, none, none]) (lsub_n (lsub_n (lsub_n (lsub_n (lsub_n (lsub_0)))))) ?_
          exact ok_X12_foretold_32 σ23 _ h
def f_X12_out_68   (s0 : Int32) (σ : Sg) : Option (Int32 × Sg) :=
  bndV (f_X12_putBack σ) fun σ2 =>
  some (s0, σ2)
set_option maxRecDepth 100000 in
set_option maxHeartbeats 4000000 in
theorem ok_X12_out_68 {κ : Kd}    : ∀ (s0 : Int32) (σ : Sg) (q : (Int32 × Sg)), f_X12_out_68 s0 σ = some q → AW κ pX12_out 9 (some (aI q.1), q.2) 68 [some (aR 12 0 0), none, none, none] [aI s0] σ := by
  intro s0 σ q h
  unfold f_X12_out_68 at h
  refine aw_seq [(.istore_n 3, 1, ax0), (.aload_n 0, 1, ax0)] (pc' := 70) (L' := [some (aR 12 0 0), none, none, some (aI s0)]) (stk' := [aR 12 0 0]) (σ' := σ) (g := []) (by decide +kernel) rfl rfl ?_
  obtain ⟨σ2, h1, h⟩ := bndV_some h
  refine aw_cV (P' := pX12_putBack) (idx := 427) (d' := 1) (c := 12) (n := 0) (k := 0) [] [] (ov := none) (stk2 := []) okp_X12_putBack (by decide +kernel) ml_RX12_427 vok_X12_putBack (by decide) rfl nar_X12_putBack (by decide) rfl (Nat.le_of_ble_eq_true rfl) (ok_X12_putBack h1) rfl ?_
  refine aw_seq [(.iload_n 3, 1, ax0)] (pc' := 74) (L' := [some (aR 12 0 0), none, none, some (aI s0)]) (stk' := [aI s0]) (σ' := σ2) (g := []) (by decide +kernel) rfl rfl ?_
  cases h
  exact aw_iret rfl (by decide +kernel)
def f_X12_out_54   (v1 : Int32) (v2 : Int32) (σ : Sg) : Option (Int32 × Sg) :=
  bnd (f_X12_get v1 0 σ) fun r5 σ4 =>
  if r5 = 0 then (
    f_X12_out_68 v2 σ4
  ) else (
    f_X12_out_68 (-1) σ4
  )
set_option maxRecDepth 100000 in
set_option maxHeartbeats 4000000 in
theorem ok_X12_out_54 {κ : Kd}    : ∀ (v1 : Int32) (v2 : Int32) (σ : Sg) (q : (Int32 × Sg)), f_X12_out_54 v1 v2 σ = some q → AW κ pX12_out 9 (some (aI q.1), q.2) 54 [some (aR 12 0 0), some (aI v1), some (aI v2), none] [] σ := by
  intro v1 v2 σ q h
  unfold f_X12_out_54 at h
  refine aw_seq [(.aload_n 0, 1, ax0), (.iload_n 1, 1, ax0), (.iconst 0, 1, (axI 0))] (pc' := 57) (L' := [some (aR 12 0 0), some (aI v1), some (aI v2), none]) (stk' := [aI 0, aI v1, aR 12 0 0]) (σ' := σ) (g := []) (by decide +kernel) rfl rfl ?_
  obtain ⟨r5, σ4, h3, h⟩ := bnd_some h
  refine aw_cV (P' := pX12_get) (idx := 77) (d' := 1) (c := 12) (n := 0) (k := 0) [aI v1, aI 0] [] (ov := (some (aI r5))) (stk2 := [aI r5]) okp_X12_get (by decide +kernel) ml_RX12_77 vok_X12_get (by decide) rfl nar_X12_get (by decide) rfl (Nat.le_of_ble_eq_true rfl) (ok_X12_get h3) rfl ?_
  refine aw_if_ne (off := 7) (tgt := 67) (by decide +kernel) (by decide) (fun c1 => ?_) (fun c1 => ?_)
  · rw [if_neg c1] at h
    refine aw_seq [(.iconst (-1), 1, (axI (-1)))] (pc' := 68) (L' := [some (aR 12 0 0), some (aI v1), some (aI v2), none]) (stk' := [aI (-1)]) (σ' := σ4) (g := []) (by decide +kernel) rfl rfl ?_
    refine aw_forget (L' := [some (aR 12 0 0), none, none, none]) (lsub_s (lsub_n (lsub_n (lsub_n (lsub_0))))) ?_
    exact ok_X12_out_68 (-1) σ4 _ h
  · rw [if_pos c1] at h
    refine aw_seq [(.iload_n 2, 1, ax0)] (pc' := 64) (L' := [some (aR 12 0 0), some (aI v1), some (aI v2), none]) (stk' := [aI v2]) (σ' := σ4) (g := []) (by decide +kernel) rfl rfl ?_
    refine aw_goto (off := 4) (tgt := 68) (by decide +kernel) (by decide) ?_
    refine aw_forget (L' := [some (aR 12 0 0), none, none, none]) (lsub_s (lsub_n (lsub_n (lsub_n (lsub_0))))) ?_
    exact ok_X12_out_68 v2 σ4 _ h
def f_X12_out_16   : Nat → Int32 → Int32 → Sg → Option (Int32 × Sg)
  | 0, _, _, _ => none
  | fu + 1, v1, v2, σ =>
    if 60 ≤ v2 then (
      f_X12_out_54 v1 v2 σ
    ) else (
      grd (inb 6 1986 && true) <|
      if 9999 ≤ (σ.1 1 (ix 6)) then (
        f_X12_out_54 v1 v2 σ
      ) else (
        bnd (f_X12_get v1 0 σ) fun r8 σ7 =>
        if r8 = 0 then (
          f_X12_out_54 v1 v2 σ7
        ) else (
          bndV (f_X12_pass σ7) fun σ10 =>
          (f_X12_out_16 fu) v1 (v2 + 1) σ10
        )
      )
    )
set_option maxRecDepth 100000 in
set_option maxHeartbeats 4000000 in
theorem ok_X12_out_16 {κ : Kd}    : ∀ (fu : Nat) (v1 : Int32) (v2 : Int32) (σ : Sg) (q : (Int32 × Sg)), f_X12_out_16 fu v1 v2 σ = some q → AW κ pX12_out 9 (some (aI q.1), q.2) 16 [some (aR 12 0 0), some (aI v1), some (aI v2), none] [] σ := by
  intro fu
  induction fu with
  | zero =>
    intro v1 v2 σ q h
    unfold f_X12_out_16 at h
    cases h
  | succ fu ih =>
    intro v1 v2 σ q h
    unfold f_X12_out_16 at h
    refine aw_seq [(.iload_n 2, 1, ax0), (.bipush 60, 2, (axI 60))] (pc' := 19) (L' := [some (aR 12 0 0), some (aI v1), some (aI v2), none]) (stk' := [aI 60, aI v2]) (σ' := σ) (g := []) (by decide +kernel) rfl rfl ?_
    refine aw_icmp_ge (off := 35) (tgt := 54) (by decide +kernel) (by decide) (fun c1 => ?_) (fun c1 => ?_)
    · rw [if_pos c1] at h
      refine aw_forget (L' := [some (aR 12 0 0), some (aI v1), some (aI v2), none]) (lsub_s (lsub_s (lsub_s (lsub_n (lsub_0))))) ?_
      exact ok_X12_out_54 v1 v2 σ _ h
    · rw [if_neg c1] at h
      obtain ⟨hg, h⟩ := grd_some h
      refine aw_seq [(.aload_n 0, 1, ax0), (.getfield 7, 3, (axF 12 0 (2, 1, 13, some 1986))), (.bipush 6, 2, (axI 6)), (.iaload, 1, ax0), (.sipush 9999, 3, (axI 9999))] (pc' := 32) (L' := [some (aR 12 0 0), some (aI v1), some (aI v2), none]) (stk' := [aI 9999, aI (σ.1 1 (ix 6))]) (σ' := σ) (g := [inb 6 1986]) (by decide +kernel) rfl hg ?_
      refine aw_icmp_ge (off := 22) (tgt := 54) (by decide +kernel) (by decide) (fun c1 => ?_) (fun c1 => ?_)
      · rw [if_pos c1] at h
        refine aw_forget (L' := [some (aR 12 0 0), some (aI v1), some (aI v2), none]) (lsub_s (lsub_s (lsub_s (lsub_n (lsub_0))))) ?_
        exact ok_X12_out_54 v1 v2 σ _ h
      · rw [if_neg c1] at h
        refine aw_seq [(.aload_n 0, 1, ax0), (.iload_n 1, 1, ax0), (.iconst 0, 1, (axI 0))] (pc' := 38) (L' := [some (aR 12 0 0), some (aI v1), some (aI v2), none]) (stk' := [aI 0, aI v1, aR 12 0 0]) (σ' := σ) (g := []) (by decide +kernel) rfl rfl ?_
        obtain ⟨r8, σ7, h6, h⟩ := bnd_some h
        refine aw_cV (P' := pX12_get) (idx := 77) (d' := 1) (c := 12) (n := 0) (k := 0) [aI v1, aI 0] [] (ov := (some (aI r8))) (stk2 := [aI r8]) okp_X12_get (by decide +kernel) ml_RX12_77 vok_X12_get (by decide) rfl nar_X12_get (by decide) rfl (Nat.le_of_ble_eq_true rfl) (ok_X12_get h6) rfl ?_
        refine aw_if_eq (off := 13) (tgt := 54) (by decide +kernel) (by decide) (fun c1 => ?_) (fun c1 => ?_)
        · rw [if_pos c1] at h
          refine aw_forget (L' := [some (aR 12 0 0), some (aI v1), some (aI v2), none]) (lsub_s (lsub_s (lsub_s (lsub_n (lsub_0))))) ?_
          exact ok_X12_out_54 v1 v2 σ7 _ h
        · rw [if_neg c1] at h
          refine aw_seq [(.aload_n 0, 1, ax0)] (pc' := 45) (L' := [some (aR 12 0 0), some (aI v1), some (aI v2), none]) (stk' := [aR 12 0 0]) (σ' := σ7) (g := []) (by decide +kernel) rfl rfl ?_
          obtain ⟨σ10, h9, h⟩ := bndV_some h
          refine aw_cV (P' := pX12_pass) (idx := 379) (d' := 8) (c := 12) (n := 0) (k := 0) [] [] (ov := none) (stk2 := []) okp_X12_pass (by decide +kernel) ml_RX12_379 vok_X12_pass (by decide) rfl nar_X12_pass (by decide) rfl (Nat.le_of_ble_eq_true rfl) (ok_X12_pass h9) rfl ?_
          refine aw_seq [(.iinc 2 1, 3, (axI 1))] (pc' := 51) (L' := [some (aR 12 0 0), some (aI v1), some (aI (v2 + 1)), none]) (stk' := []) (σ' := σ10) (g := []) (by decide +kernel) rfl rfl ?_
          refine aw_goto (off := (-35)) (tgt := 16) (by decide +kernel) (by decide) ?_
          refine aw_forget (L' := [some (aR 12 0 0), some (aI v1), some (aI (v2 + 1)), none]) (lsub_s (lsub_s (lsub_s (lsub_n (lsub_0))))) ?_
          exact ih v1 (v2 + 1) σ10 _ h
def f_X12_out (v1 : Int32) (σ : Sg) : Option (Int32 × Sg) :=
  bnd (f_X12_isHouse v1 σ) fun r13 σ12 =>
  if r13 = 0 then (
    some ((-1), σ12)
  ) else (
    bndV (f_X12_setAside σ12) fun σ15 =>
    f_X12_out_16 FU v1 0 σ15
  )
set_option maxRecDepth 100000 in
set_option maxHeartbeats 4000000 in
theorem ok_X12_out {κ : Kd} {v1 : Int32} {σ : Sg} {q : (Int32 × Sg)} (h : f_X12_out v1 σ = some q) : AMet κ pX12_out 9 [aR 12 0 0, aI v1] σ (some (aI q.1), q.2) := by
  unfold f_X12_out at h
  refine amet_of okp_X12_out [(false, aR 12 0 0), (false, aI v1)] (List.forall_mem_cons.mpr ⟨rfl, List.forall_mem_cons.mpr ⟨rfl, (fun _ hn => absurd hn List.not_mem_nil)⟩⟩) 2 rfl ?_
  show AW κ pX12_out 9 (some (aI q.1), q.2) 0 [some (aR 12 0 0), some (aI v1), none, none] [] σ
  refine aw_seq [(.aload_n 0, 1, ax0), (.iload_n 1, 1, ax0)] (pc' := 2) (L' := [some (aR 12 0 0), some (aI v1), none, none]) (stk' := [aI v1, aR 12 0 0]) (σ' := σ) (g := []) (by decide +kernel) rfl rfl ?_
  obtain ⟨r13, σ12, h11, h⟩ := bnd_some h
  refine aw_cV (P' := pX12_isHouse) (idx := 88) (d' := 2) (c := 12) (n := 0) (k := 0) [aI v1] [] (ov := (some (aI r13))) (stk2 := [aI r13]) okp_X12_isHouse (by decide +kernel) ml_RX12_88 vok_X12_isHouse (by decide) rfl nar_X12_isHouse (by decide) rfl (Nat.le_of_ble_eq_true rfl) (ok_X12_isHouse h11) rfl ?_
  refine aw_if_ne (off := 5) (tgt := 10) (by decide +kernel) (by decide) (fun c1 => ?_) (fun c1 => ?_)
  · rw [if_neg c1] at h
    refine aw_seq [(.aload_n 0, 1, ax0)] (pc' := 11) (L' := [some (aR 12 0 0), some (aI v1), none, none]) (stk' := [aR 12 0 0]) (σ' := σ12) (g := []) (by decide +kernel) rfl rfl ?_
    obtain ⟨σ15, h14, h⟩ := bndV_some h
    refine aw_cV (P' := pX12_setAside) (idx := 424) (d' := 1) (c := 12) (n := 0) (k := 0) [] [] (ov := none) (stk2 := []) okp_X12_setAside (by decide +kernel) ml_RX12_424 vok_X12_setAside (by decide) rfl nar_X12_setAside (by decide) rfl (Nat.le_of_ble_eq_true rfl) (ok_X12_setAside h14) rfl ?_
    refine aw_seq [(.iconst 0, 1, (axI 0)), (.istore_n 2, 1, ax0)] (pc' := 16) (L' := [some (aR 12 0 0), some (aI v1), some (aI 0), none]) (stk' := []) (σ' := σ15) (g := []) (by decide +kernel) rfl rfl ?_
    refine aw_forget (L' := [some (aR 12 0 0), some (aI v1), some (aI 0), none]) (lsub_s (lsub_s (lsub_s (lsub_n (lsub_0))))) ?_
    exact ok_X12_out_16 FU v1 0 σ15 _ h
  · rw [if_pos c1] at h
    refine aw_seq [(.iconst (-1), 1, (axI (-1)))] (pc' := 9) (L' := [some (aR 12 0 0), some (aI v1), none, none]) (stk' := [aI (-1)]) (σ' := σ12) (g := []) (by decide +kernel) rfl rfl ?_
    cases h
    exact aw_iret rfl (by decide +kernel)
def f_X12_layFars_64  (rec_14 : Int32 → Int32 → Sg → Option Sg) (v1 : Int32) (v2 : Int32) (s1 : Int32) (s2 : Int32) (σ : Sg) : Option Sg :=
  grd (inb s1 64 && true) <|
  ltσ (wI σ 10 (ix s1) s2) fun σ1 =>
  rec_14 v1 (v2 + 1) σ1
set_option maxRecDepth 100000 in
set_option maxHeartbeats 4000000 in
theorem ok_X12_layFars_64 {κ : Kd}   {rec_14 : Int32 → Int32 → Sg → Option Sg} (hrec_14 : ∀ (v1 : Int32) (v2 : Int32) (σ : Sg) (q : Sg), rec_14 v1 v2 σ = some q → AW κ pX12_layFars 2 (none, q) 14 [some (aR 12 0 0), some (aI v1), some (aI v2), none] [] σ) : ∀ (v1 : Int32) (v2 : Int32) (s1 : Int32) (s2 : Int32) (σ : Sg) (q : Sg), f_X12_layFars_64 rec_14 v1 v2 s1 s2 σ = some q → AW κ pX12_layFars 2 (none, q) 64 [some (aR 12 0 0), some (aI v1), some (aI v2), none] [aI s2, aI s1, aR 13 64 10] σ := by
  intro v1 v2 s1 s2 σ q h
  unfold f_X12_layFars_64 at h
  obtain ⟨hg, h⟩ := grd_some h
  obtain ⟨σ1, e2, h⟩ := ltσ_some h
  refine aw_seq [(.iastore, 1, ax0)] (pc' := 65) (L' := [some (aR 12 0 0), some (aI v1), some (aI v2), none]) (stk' := []) (σ' := σ1) (g := [inb s1 64]) (by decide +kernel) (by rw [e2]; rfl) hg ?_
  refine aw_seq [(.iinc 2 1, 3, (axI 1))] (pc' := 68) (L' := [some (aR 12 0 0), some (aI v1), some (aI (v2 + 1)), none]) (stk' := []) (σ' := σ1) (g := []) (by decide +kernel) rfl rfl ?_
  refine aw_goto (off := (-54)) (tgt := 14) (by decide +kernel) (by decide) ?_
  refine aw_forget (L' := [some (aR 12 0 0), some (aI v1), some (aI (v2 + 1)), none]) (lsub_s (lsub_s (lsub_s (lsub_n (lsub_0))))) ?_
  exact hrec_14 v1 (v2 + 1) σ1 _ h
def f_X12_layFars_14  (rec_2 : Int32 → Sg → Option Sg) : Nat → Int32 → Int32 → Sg → Option Sg
  | 0, _, _, _ => none
  | fu + 1, v1, v2, σ =>
    grd (inb 0 1986 && true) <|
    if (σ.1 1 (ix 0)) ≤ v2 then (
      rec_2 (v1 + 1) σ
    ) else (
      if v1 = v2 then (
        f_X12_layFars_64 (f_X12_layFars_14 rec_2 fu) v1 v2 ((8 * v1) + v2) 0 σ
      ) else (
        bnd (f_X12_lengthOf v1 v2 σ) fun r5 σ4 =>
        if r5 = 0 then (
          f_X12_layFars_64 (f_X12_layFars_14 rec_2 fu) v1 v2 ((8 * v1) + v2) 1000000 σ4
        ) else (
          bnd (f_X12_lengthOf v1 v2 σ4) fun r8 σ7 =>
          f_X12_layFars_64 (f_X12_layFars_14 rec_2 fu) v1 v2 ((8 * v1) + v2) r8 σ7
        )
      )
    )
set_option maxRecDepth 100000 in
set_option maxHeartbeats 4000000 in
theorem ok_X12_layFars_14 {κ : Kd}   {rec_2 : Int32 → Sg → Option Sg} (hrec_2 : ∀ (v1 : Int32) (σ : Sg) (q : Sg), rec_2 v1 σ = some q → AW κ pX12_layFars 2 (none, q) 2 [some (aR 12 0 0), some (aI v1), none, none] [] σ) : ∀ (fu : Nat) (v1 : Int32) (v2 : Int32) (σ : Sg) (q : Sg), f_X12_layFars_14 rec_2 fu v1 v2 σ = some q → AW κ pX12_layFars 2 (none, q) 14 [some (aR 12 0 0), some (aI v1), some (aI v2), none] [] σ := by
  intro fu
  induction fu with
  | zero =>
    intro v1 v2 σ q h
    unfold f_X12_layFars_14 at h
    cases h
  | succ fu ih =>
    intro v1 v2 σ q h
    unfold f_X12_layFars_14 at h
    obtain ⟨hg, h⟩ := grd_some h
    refine aw_seq [(.iload_n 2, 1, ax0), (.aload_n 0, 1, ax0), (.getfield 7, 3, (axF 12 0 (2, 1, 13, some 1986))), (.iconst 0, 1, (axI 0)), (.iaload, 1, ax0)] (pc' := 21) (L' := [some (aR 12 0 0), some (aI v1), some (aI v2), none]) (stk' := [aI (σ.1 1 (ix 0)), aI v2]) (σ' := σ) (g := [inb 0 1986]) (by decide +kernel) rfl hg ?_
    refine aw_icmp_ge (off := 50) (tgt := 71) (by decide +kernel) (by decide) (fun c1 => ?_) (fun c1 => ?_)
    · rw [if_pos c1] at h
      refine aw_seq [(.iinc 1 1, 3, (axI 1))] (pc' := 74) (L' := [some (aR 12 0 0), some (aI (v1 + 1)), some (aI v2), none]) (stk' := []) (σ' := σ) (g := []) (by decide +kernel) rfl rfl ?_
      refine aw_goto (off := (-72)) (tgt := 2) (by decide +kernel) (by decide) ?_
      refine aw_forget (L' := [some (aR 12 0 0), some (aI (v1 + 1)), none, none]) (lsub_s (lsub_s (lsub_n (lsub_n (lsub_0))))) ?_
      exact hrec_2 (v1 + 1) σ _ h
    · rw [if_neg c1] at h
      refine aw_seq [(.aload_n 0, 1, ax0), (.getfield 50, 3, (axF 12 27 (2, 10, 13, some 64))), (.bipush 8, 2, (axI 8)), (.iload_n 1, 1, ax0), (.imul, 1, ax0), (.iload_n 2, 1, ax0), (.iadd, 1, ax0), (.iload_n 1, 1, ax0), (.iload_n 2, 1, ax0)] (pc' := 36) (L' := [some (aR 12 0 0), some (aI v1), some (aI v2), none]) (stk' := [aI v2, aI v1, aI ((8 * v1) + v2), aR 13 64 10]) (σ' := σ) (g := []) (by decide +kernel) rfl rfl ?_
      refine aw_icmp_ne (off := 7) (tgt := 43) (by decide +kernel) (by decide) (fun c1 => ?_) (fun c1 => ?_)
      · rw [if_neg c1] at h
        refine aw_seq [(.aload_n 0, 1, ax0), (.iload_n 1, 1, ax0), (.iload_n 2, 1, ax0)] (pc' := 46) (L' := [some (aR 12 0 0), some (aI v1), some (aI v2), none]) (stk' := [aI v2, aI v1, aR 12 0 0, aI ((8 * v1) + v2), aR 13 64 10]) (σ' := σ) (g := []) (by decide +kernel) rfl rfl ?_
        obtain ⟨r5, σ4, h3, h⟩ := bnd_some h
        refine aw_cV (P' := pX12_lengthOf) (idx := 73) (d' := 1) (c := 12) (n := 0) (k := 0) [aI v1, aI v2] [aI ((8 * v1) + v2), aR 13 64 10] (ov := (some (aI r5))) (stk2 := [aI r5, aI ((8 * v1) + v2), aR 13 64 10]) okp_X12_lengthOf (by decide +kernel) ml_RX12_73 vok_X12_lengthOf (by decide) rfl nar_X12_lengthOf (by decide) rfl (Nat.le_of_ble_eq_true rfl) (ok_X12_lengthOf h3) rfl ?_
        refine aw_if_ne (off := 9) (tgt := 58) (by decide +kernel) (by decide) (fun c1 => ?_) (fun c1 => ?_)
        · rw [if_neg c1] at h
          refine aw_seq [(.aload_n 0, 1, ax0), (.iload_n 1, 1, ax0), (.iload_n 2, 1, ax0)] (pc' := 61) (L' := [some (aR 12 0 0), some (aI v1), some (aI v2), none]) (stk' := [aI v2, aI v1, aR 12 0 0, aI ((8 * v1) + v2), aR 13 64 10]) (σ' := σ4) (g := []) (by decide +kernel) rfl rfl ?_
          obtain ⟨r8, σ7, h6, h⟩ := bnd_some h
          refine aw_cV (P' := pX12_lengthOf) (idx := 73) (d' := 1) (c := 12) (n := 0) (k := 0) [aI v1, aI v2] [aI ((8 * v1) + v2), aR 13 64 10] (ov := (some (aI r8))) (stk2 := [aI r8, aI ((8 * v1) + v2), aR 13 64 10]) okp_X12_lengthOf (by decide +kernel) ml_RX12_73 vok_X12_lengthOf (by decide) rfl nar_X12_lengthOf (by decide) rfl (Nat.le_of_ble_eq_true rfl) (ok_X12_lengthOf h6) rfl ?_
          refine aw_forget (L' := [some (aR 12 0 0), some (aI v1), some (aI v2), none]) (lsub_s (lsub_s (lsub_s (lsub_n (lsub_0))))) ?_
          exact ok_X12_layFars_64 ih v1 v2 ((8 * v1) + v2) r8 σ7 _ h
        · rw [if_pos c1] at h
          refine aw_seq [(.ldc_w 430, 3, (axI 1000000))] (pc' := 55) (L' := [some (aR 12 0 0), some (aI v1), some (aI v2), none]) (stk' := [aI 1000000, aI ((8 * v1) + v2), aR 13 64 10]) (σ' := σ4) (g := []) (by decide +kernel) rfl rfl ?_
          refine aw_goto (off := 9) (tgt := 64) (by decide +kernel) (by decide) ?_
          refine aw_forget (L' := [some (aR 12 0 0), some (aI v1), some (aI v2), none]) (lsub_s (lsub_s (lsub_s (lsub_n (lsub_0))))) ?_
          exact ok_X12_layFars_64 ih v1 v2 ((8 * v1) + v2) 1000000 σ4 _ h
      · rw [if_pos c1] at h
        refine aw_seq [(.iconst 0, 1, (axI 0))] (pc' := 40) (L' := [some (aR 12 0 0), some (aI v1), some (aI v2), none]) (stk' := [aI 0, aI ((8 * v1) + v2), aR 13 64 10]) (σ' := σ) (g := []) (by decide +kernel) rfl rfl ?_
        refine aw_goto (off := 24) (tgt := 64) (by decide +kernel) (by decide) ?_
        refine aw_forget (L' := [some (aR 12 0 0), some (aI v1), some (aI v2), none]) (lsub_s (lsub_s (lsub_s (lsub_n (lsub_0))))) ?_
        exact ok_X12_layFars_64 ih v1 v2 ((8 * v1) + v2) 0 σ _ h
def f_X12_layFars_184  (rec_103 : Int32 → Int32 → Int32 → Sg → Option Sg) (v1 : Int32) (v2 : Int32) (v3 : Int32) (σ : Sg) : Option Sg :=
  rec_103 v1 v2 (v3 + 1) σ
set_option maxRecDepth 100000 in
set_option maxHeartbeats 4000000 in
theorem ok_X12_layFars_184 {κ : Kd}   {rec_103 : Int32 → Int32 → Int32 → Sg → Option Sg} (hrec_103 : ∀ (v1 : Int32) (v2 : Int32) (v3 : Int32) (σ : Sg) (q : Sg), rec_103 v1 v2 v3 σ = some q → AW κ pX12_layFars 2 (none, q) 103 [some (aR 12 0 0), some (aI v1), some (aI v2), some (aI v3)] [] σ) : ∀ (v1 : Int32) (v2 : Int32) (v3 : Int32) (σ : Sg) (q : Sg), f_X12_layFars_184 rec_103 v1 v2 v3 σ = some q → AW κ pX12_layFars 2 (none, q) 184 [some (aR 12 0 0), some (aI v1), some (aI v2), some (aI v3)] [] σ := by
  intro v1 v2 v3 σ q h
  unfold f_X12_layFars_184 at h
  refine aw_seq [(.iinc 3 1, 3, (axI 1))] (pc' := 187) (L' := [some (aR 12 0 0), some (aI v1), some (aI v2), some (aI (v3 + 1))]) (stk' := []) (σ' := σ) (g := []) (by decide +kernel) rfl rfl ?_
  refine aw_goto (off := (-84)) (tgt := 103) (by decide +kernel) (by decide) ?_
  refine aw_forget (L' := [some (aR 12 0 0), some (aI v1), some (aI v2), some (aI (v3 + 1))]) (lsub_s (lsub_s (lsub_s (lsub_s (lsub_0))))) ?_
  exact hrec_103 v1 v2 (v3 + 1) σ _ h
def f_X12_layFars_103  (rec_91 : Int32 → Int32 → Sg → Option Sg) : Nat → Int32 → Int32 → Int32 → Sg → Option Sg
  | 0, _, _, _, _ => none
  | fu + 1, v1, v2, v3, σ =>
    grd (inb 0 1986 && true) <|
    if (σ.1 1 (ix 0)) ≤ v3 then (
      rec_91 v1 (v2 + 1) σ
    ) else (
      grd (inb ((8 * v2) + v1) 64 && (inb ((8 * v1) + v3) 64 && (inb ((8 * v2) + v3) 64 && true))) <|
      if (σ.1 10 (ix ((8 * v2) + v3))) ≤ ((σ.1 10 (ix ((8 * v2) + v1))) + (σ.1 10 (ix ((8 * v1) + v3)))) then (
        f_X12_layFars_184 (f_X12_layFars_103 rec_91 fu) v1 v2 v3 σ
      ) else (
        grd (inb ((8 * v2) + v1) 64 && (inb ((8 * v1) + v3) 64 && (inb ((8 * v2) + v3) 64 && true))) <|
        ltσ (wI σ 10 (ix ((8 * v2) + v3)) ((σ.1 10 (ix ((8 * v2) + v1))) + (σ.1 10 (ix ((8 * v1) + v3))))) fun σ9 =>
        f_X12_layFars_184 (f_X12_layFars_103 rec_91 fu) v1 v2 v3 σ9
      )
    )
set_option maxRecDepth 100000 in
set_option maxHeartbeats 4000000 in
theorem ok_X12_layFars_103 {κ : Kd}   {rec_91 : Int32 → Int32 → Sg → Option Sg} (hrec_91 : ∀ (v1 : Int32) (v2 : Int32) (σ : Sg) (q : Sg), rec_91 v1 v2 σ = some q → AW κ pX12_layFars 2 (none, q) 91 [some (aR 12 0 0), some (aI v1), some (aI v2), none] [] σ) : ∀ (fu : Nat) (v1 : Int32) (v2 : Int32) (v3 : Int32) (σ : Sg) (q : Sg), f_X12_layFars_103 rec_91 fu v1 v2 v3 σ = some q → AW κ pX12_layFars 2 (none, q) 103 [some (aR 12 0 0), some (aI v1), some (aI v2), some (aI v3)] [] σ := by
  intro fu
  induction fu with
  | zero =>
    intro v1 v2 v3 σ q h
    unfold f_X12_layFars_103 at h
    cases h
  | succ fu ih =>
    intro v1 v2 v3 σ q h
    unfold f_X12_layFars_103 at h
    obtain ⟨hg, h⟩ := grd_some h
    refine aw_seq [(.iload_n 3, 1, ax0), (.aload_n 0, 1, ax0), (.getfield 7, 3, (axF 12 0 (2, 1, 13, some 1986))), (.iconst 0, 1, (axI 0)), (.iaload, 1, ax0)] (pc' := 110) (L' := [some (aR 12 0 0), some (aI v1), some (aI v2), some (aI v3)]) (stk' := [aI (σ.1 1 (ix 0)), aI v3]) (σ' := σ) (g := [inb 0 1986]) (by decide +kernel) rfl hg ?_
    refine aw_icmp_ge (off := 80) (tgt := 190) (by decide +kernel) (by decide) (fun c1 => ?_) (fun c1 => ?_)
    · rw [if_pos c1] at h
      refine aw_seq [(.iinc 2 1, 3, (axI 1))] (pc' := 193) (L' := [some (aR 12 0 0), some (aI v1), some (aI (v2 + 1)), some (aI v3)]) (stk' := []) (σ' := σ) (g := []) (by decide +kernel) rfl rfl ?_
      refine aw_goto (off := (-102)) (tgt := 91) (by decide +kernel) (by decide) ?_
      refine aw_forget (L' := [some (aR 12 0 0), some (aI v1), some (aI (v2 + 1)), none]) (lsub_s (lsub_s (lsub_s (lsub_n (lsub_0))))) ?_
      exact hrec_91 v1 (v2 + 1) σ _ h
    · rw [if_neg c1] at h
      obtain ⟨hg, h⟩ := grd_some h
      refine aw_seq [(.aload_n 0, 1, ax0), (.getfield 50, 3, (axF 12 27 (2, 10, 13, some 64))), (.bipush 8, 2, (axI 8)), (.iload_n 2, 1, ax0), (.imul, 1, ax0), (.iload_n 1, 1, ax0), (.iadd, 1, ax0), (.iaload, 1, ax0), (.aload_n 0, 1, ax0), (.getfield 50, 3, (axF 12 27 (2, 10, 13, some 64))), (.bipush 8, 2, (axI 8)), (.iload_n 1, 1, ax0), (.imul, 1, ax0), (.iload_n 3, 1, ax0), (.iadd, 1, ax0), (.iaload, 1, ax0), (.iadd, 1, ax0), (.aload_n 0, 1, ax0), (.getfield 50, 3, (axF 12 27 (2, 10, 13, some 64))), (.bipush 8, 2, (axI 8)), (.iload_n 2, 1, ax0), (.imul, 1, ax0), (.iload_n 3, 1, ax0), (.iadd, 1, ax0), (.iaload, 1, ax0)] (pc' := 147) (L' := [some (aR 12 0 0), some (aI v1), some (aI v2), some (aI v3)]) (stk' := [aI (σ.1 10 (ix ((8 * v2) + v3))), aI ((σ.1 10 (ix ((8 * v2) + v1))) + (σ.1 10 (ix ((8 * v1) + v3))))]) (σ' := σ) (g := [inb ((8 * v2) + v1) 64, inb ((8 * v1) + v3) 64, inb ((8 * v2) + v3) 64]) (by decide +kernel) rfl hg ?_
      refine aw_icmp_ge (off := 37) (tgt := 184) (by decide +kernel) (by decide) (fun c1 => ?_) (fun c1 => ?_)
      · rw [if_pos c1] at h
        refine aw_forget (L' := [some (aR 12 0 0), some (aI v1), some (aI v2), some (aI v3)]) (lsub_s (lsub_s (lsub_s (lsub_s (lsub_0))))) ?_
        exact ok_X12_layFars_184 ih v1 v2 v3 σ _ h
      · rw [if_neg c1] at h
        obtain ⟨hg, h⟩ := grd_some h
        obtain ⟨σ9, e10, h⟩ := ltσ_some h
        refine aw_seq [(.aload_n 0, 1, ax0), (.getfield 50, 3, (axF 12 27 (2, 10, 13, some 64))), (.bipush 8, 2, (axI 8)), (.iload_n 2, 1, ax0), (.imul, 1, ax0), (.iload_n 3, 1, ax0), (.iadd, 1, ax0), (.aload_n 0, 1, ax0), (.getfield 50, 3, (axF 12 27 (2, 10, 13, some 64))), (.bipush 8, 2, (axI 8)), (.iload_n 2, 1, ax0), (.imul, 1, ax0), (.iload_n 1, 1, ax0), (.iadd, 1, ax0), (.iaload, 1, ax0), (.aload_n 0, 1, ax0), (.getfield 50, 3, (axF 12 27 (2, 10, 13, some 64))), (.bipush 8, 2, (axI 8)), (.iload_n 1, 1, ax0), (.imul, 1, ax0), (.iload_n 3, 1, ax0), (.iadd, 1, ax0), (.iaload, 1, ax0), (.iadd, 1, ax0), (.iastore, 1, ax0)] (pc' := 184) (L' := [some (aR 12 0 0), some (aI v1), some (aI v2), some (aI v3)]) (stk' := []) (σ' := σ9) (g := [inb ((8 * v2) + v1) 64, inb ((8 * v1) + v3) 64, inb ((8 * v2) + v3) 64]) (by decide +kernel) (by rw [e10]; rfl) hg ?_
        refine aw_forget (L' := [some (aR 12 0 0), some (aI v1), some (aI v2), some (aI v3)]) (lsub_s (lsub_s (lsub_s (lsub_s (lsub_0))))) ?_
        exact ok_X12_layFars_184 ih v1 v2 v3 σ9 _ h
def f_X12_layFars_91  (rec_79 : Int32 → Sg → Option Sg) : Nat → Int32 → Int32 → Sg → Option Sg
  | 0, _, _, _ => none
  | fu + 1, v1, v2, σ =>
    grd (inb 0 1986 && true) <|
    if (σ.1 1 (ix 0)) ≤ v2 then (
      rec_79 (v1 + 1) σ
    ) else (
      f_X12_layFars_103 (f_X12_layFars_91 rec_79 fu) FU v1 v2 0 σ
    )
set_option maxRecDepth 100000 in
set_option maxHeartbeats 4000000 in
theorem ok_X12_layFars_91 {κ : Kd}   {rec_79 : Int32 → Sg → Option Sg} (hrec_79 : ∀ (v1 : Int32) (σ : Sg) (q : Sg), rec_79 v1 σ = some q → AW κ pX12_layFars 2 (none, q) 79 [some (aR 12 0 0), some (aI v1), none, none] [] σ) : ∀ (fu : Nat) (v1 : Int32) (v2 : Int32) (σ : Sg) (q : Sg), f_X12_layFars_91 rec_79 fu v1 v2 σ = some q → AW κ pX12_layFars 2 (none, q) 91 [some (aR 12 0 0), some (aI v1), some (aI v2), none] [] σ := by
  intro fu
  induction fu with
  | zero =>
    intro v1 v2 σ q h
    unfold f_X12_layFars_91 at h
    cases h
  | succ fu ih =>
    intro v1 v2 σ q h
    unfold f_X12_layFars_91 at h
    obtain ⟨hg, h⟩ := grd_some h
    refine aw_seq [(.iload_n 2, 1, ax0), (.aload_n 0, 1, ax0), (.getfield 7, 3, (axF 12 0 (2, 1, 13, some 1986))), (.iconst 0, 1, (axI 0)), (.iaload, 1, ax0)] (pc' := 98) (L' := [some (aR 12 0 0), some (aI v1), some (aI v2), none]) (stk' := [aI (σ.1 1 (ix 0)), aI v2]) (σ' := σ) (g := [inb 0 1986]) (by decide +kernel) rfl hg ?_
    refine aw_icmp_ge (off := 98) (tgt := 196) (by decide +kernel) (by decide) (fun c1 => ?_) (fun c1 => ?_)
    · rw [if_pos c1] at h
      refine aw_seq [(.iinc 1 1, 3, (axI 1))] (pc' := 199) (L' := [some (aR 12 0 0), some (aI (v1 + 1)), some (aI v2), none]) (stk' := []) (σ' := σ) (g := []) (by decide +kernel) rfl rfl ?_
      refine aw_goto (off := (-120)) (tgt := 79) (by decide +kernel) (by decide) ?_
      refine aw_forget (L' := [some (aR 12 0 0), some (aI (v1 + 1)), none, none]) (lsub_s (lsub_s (lsub_n (lsub_n (lsub_0))))) ?_
      exact hrec_79 (v1 + 1) σ _ h
    · rw [if_neg c1] at h
      refine aw_seq [(.iconst 0, 1, (axI 0)), (.istore_n 3, 1, ax0)] (pc' := 103) (L' := [some (aR 12 0 0), some (aI v1), some (aI v2), some (aI 0)]) (stk' := []) (σ' := σ) (g := []) (by decide +kernel) rfl rfl ?_
      refine aw_forget (L' := [some (aR 12 0 0), some (aI v1), some (aI v2), some (aI 0)]) (lsub_s (lsub_s (lsub_s (lsub_s (lsub_0))))) ?_
      exact ok_X12_layFars_103 ih FU v1 v2 0 σ _ h
def f_X12_layFars_79   : Nat → Int32 → Sg → Option Sg
  | 0, _, _ => none
  | fu + 1, v1, σ =>
    grd (inb 0 1986 && true) <|
    if (σ.1 1 (ix 0)) ≤ v1 then (
      some σ
    ) else (
      f_X12_layFars_91 (f_X12_layFars_79 fu) FU v1 0 σ
    )
set_option maxRecDepth 100000 in
set_option maxHeartbeats 4000000 in
theorem ok_X12_layFars_79 {κ : Kd}    : ∀ (fu : Nat) (v1 : Int32) (σ : Sg) (q : Sg), f_X12_layFars_79 fu v1 σ = some q → AW κ pX12_layFars 2 (none, q) 79 [some (aR 12 0 0), some (aI v1), none, none] [] σ := by
  intro fu
  induction fu with
  | zero =>
    intro v1 σ q h
    unfold f_X12_layFars_79 at h
    cases h
  | succ fu ih =>
    intro v1 σ q h
    unfold f_X12_layFars_79 at h
    obtain ⟨hg, h⟩ := grd_some h
    refine aw_seq [(.iload_n 1, 1, ax0), (.aload_n 0, 1, ax0), (.getfield 7, 3, (axF 12 0 (2, 1, 13, some 1986))), (.iconst 0, 1, (axI 0)), (.iaload, 1, ax0)] (pc' := 86) (L' := [some (aR 12 0 0), some (aI v1), none, none]) (stk' := [aI (σ.1 1 (ix 0)), aI v1]) (σ' := σ) (g := [inb 0 1986]) (by decide +kernel) rfl hg ?_
    refine aw_icmp_ge (off := 116) (tgt := 202) (by decide +kernel) (by decide) (fun c1 => ?_) (fun c1 => ?_)
    · rw [if_pos c1] at h
      cases h
      exact aw_vret rfl (by decide +kernel)
    · rw [if_neg c1] at h
      refine aw_seq [(.iconst 0, 1, (axI 0)), (.istore_n 2, 1, ax0)] (pc' := 91) (L' := [some (aR 12 0 0), some (aI v1), some (aI 0), none]) (stk' := []) (σ' := σ) (g := []) (by decide +kernel) rfl rfl ?_
      refine aw_forget (L' := [some (aR 12 0 0), some (aI v1), some (aI 0), none]) (lsub_s (lsub_s (lsub_s (lsub_n (lsub_0))))) ?_
      exact ok_X12_layFars_91 ih FU v1 0 σ _ h
def f_X12_layFars_2   : Nat → Int32 → Sg → Option Sg
  | 0, _, _ => none
  | fu + 1, v1, σ =>
    grd (inb 0 1986 && true) <|
    if (σ.1 1 (ix 0)) ≤ v1 then (
      f_X12_layFars_79 FU 0 σ
    ) else (
      f_X12_layFars_14 (f_X12_layFars_2 fu) FU v1 0 σ
    )
set_option maxRecDepth 100000 in
set_option maxHeartbeats 4000000 in
theorem ok_X12_layFars_2 {κ : Kd}    : ∀ (fu : Nat) (v1 : Int32) (σ : Sg) (q : Sg), f_X12_layFars_2 fu v1 σ = some q → AW κ pX12_layFars 2 (none, q) 2 [some (aR 12 0 0), some (aI v1), none, none] [] σ := by
  intro fu
  induction fu with
  | zero =>
    intro v1 σ q h
    unfold f_X12_layFars_2 at h
    cases h
  | succ fu ih =>
    intro v1 σ q h
    unfold f_X12_layFars_2 at h
    obtain ⟨hg, h⟩ := grd_some h
    refine aw_seq [(.iload_n 1, 1, ax0), (.aload_n 0, 1, ax0), (.getfield 7, 3, (axF 12 0 (2, 1, 13, some 1986))), (.iconst 0, 1, (axI 0)), (.iaload, 1, ax0)] (pc' := 9) (L' := [some (aR 12 0 0), some (aI v1), none, none]) (stk' := [aI (σ.1 1 (ix 0)), aI v1]) (σ' := σ) (g := [inb 0 1986]) (by decide +kernel) rfl hg ?_
    refine aw_icmp_ge (off := 68) (tgt := 77) (by decide +kernel) (by decide) (fun c1 => ?_) (fun c1 => ?_)
    · rw [if_pos c1] at h
      refine aw_seq [(.iconst 0, 1, (axI 0)), (.istore_n 1, 1, ax0)] (pc' := 79) (L' := [some (aR 12 0 0), some (aI 0), none, none]) (stk' := []) (σ' := σ) (g := []) (by decide +kernel) rfl rfl ?_
      refine aw_forget (L' := [some (aR 12 0 0), some (aI 0), none, none]) (lsub_s (lsub_s (lsub_n (lsub_n (lsub_0))))) ?_
      exact ok_X12_layFars_79 FU 0 σ _ h
    · rw [if_neg c1] at h
      refine aw_seq [(.iconst 0, 1, (axI 0)), (.istore_n 2, 1, ax0)] (pc' := 14) (L' := [some (aR 12 0 0), some (aI v1), some (aI 0), none]) (stk' := []) (σ' := σ) (g := []) (by decide +kernel) rfl rfl ?_
      refine aw_forget (L' := [some (aR 12 0 0), some (aI v1), some (aI 0), none]) (lsub_s (lsub_s (lsub_s (lsub_n (lsub_0))))) ?_
      exact ok_X12_layFars_14 ih FU v1 0 σ _ h
def f_X12_layFars  (σ : Sg) : Option Sg :=
  f_X12_layFars_2 FU 0 σ
set_option maxRecDepth 100000 in
set_option maxHeartbeats 4000000 in
theorem ok_X12_layFars {κ : Kd}  {σ : Sg} {q : Sg} (h : f_X12_layFars σ = some q) : AMet κ pX12_layFars 2 [aR 12 0 0] σ (none, q) := by
  unfold f_X12_layFars at h
  refine amet_of okp_X12_layFars [(false, aR 12 0 0)] (List.forall_mem_cons.mpr ⟨rfl, (fun _ hn => absurd hn List.not_mem_nil)⟩) 3 rfl ?_
  show AW κ pX12_layFars 2 (none, q) 0 [some (aR 12 0 0), none, none, none] [] σ
  refine aw_seq [(.iconst 0, 1, (axI 0)), (.istore_n 1, 1, ax0)] (pc' := 2) (L' := [some (aR 12 0 0), some (aI 0), none, none]) (stk' := []) (σ' := σ) (g := []) (by decide +kernel) rfl rfl ?_
  refine aw_forget (L' := [some (aR 12 0 0), some (aI 0), none, none]) (lsub_s (lsub_s (lsub_n (lsub_n (lsub_0))))) ?_
  exact ok_X12_layFars_2 FU 0 σ _ h
def f_X12_far_16    (σ : Sg) : Option (Int32 × Sg) :=
  some ((-1), σ)
set_option maxRecDepth 100000 in
set_option maxHeartbeats 4000000 in
theorem ok_X12_far_16 {κ : Kd}    : ∀  (σ : Sg) (q : (Int32 × Sg)), f_X12_far_16  σ = some q → AW κ pX12_far 3 (some (aI q.1), q.2) 16 [none, none, none] [] σ := by
  intro  σ q h
  unfold f_X12_far_16 at h
  refine aw_seq [(.iconst (-1), 1, (axI (-1)))] (pc' := 17) (L' := [none, none, none]) (stk' := [aI (-1)]) (σ' := σ) (g := []) (by decide +kernel) rfl rfl ?_
  cases h
  exact aw_iret rfl (by decide +kernel)
def f_X12_far_54   (s0 : Int32) (σ : Sg) : Option (Int32 × Sg) :=
  some (s0, σ)
set_option maxRecDepth 100000 in
set_option maxHeartbeats 4000000 in
theorem ok_X12_far_54 {κ : Kd}    : ∀ (s0 : Int32) (σ : Sg) (q : (Int32 × Sg)), f_X12_far_54 s0 σ = some q → AW κ pX12_far 3 (some (aI q.1), q.2) 54 [none, none, none] [aI s0] σ := by
  intro s0 σ q h
  unfold f_X12_far_54 at h
  cases h
  exact aw_iret rfl (by decide +kernel)
def f_X12_far (v1 : Int32) (v2 : Int32) (σ : Sg) : Option (Int32 × Sg) :=
  bnd (f_X12_isHouse v1 σ) fun r3 σ2 =>
  if r3 = 0 then (
    f_X12_far_16 σ2
  ) else (
    bnd (f_X12_isHouse v2 σ2) fun r6 σ5 =>
    if r6 = 0 then (
      f_X12_far_16 σ5
    ) else (
      bndV (f_X12_layFars σ5) fun σ8 =>
      grd (inb ((8 * v1) + v2) 64 && true) <|
      if (σ8.1 10 (ix ((8 * v1) + v2))) < 1000000 then (
        grd (inb ((8 * v1) + v2) 64 && true) <|
        f_X12_far_54 (σ8.1 10 (ix ((8 * v1) + v2))) σ8
      ) else (
        f_X12_far_54 (-1) σ8
      )
    )
  )
set_option maxRecDepth 100000 in
set_option maxHeartbeats 4000000 in
theorem ok_X12_far {κ : Kd} {v1 : Int32} {v2 : Int32} {σ : Sg} {q : (Int32 × Sg)} (h : f_X12_far v1 v2 σ = some q) : AMet κ pX12_far 3 [aR 12 0 0, aI v1, aI v2] σ (some (aI q.1), q.2) := by
  unfold f_X12_far at h
  refine amet_of okp_X12_far [(false, aR 12 0 0), (false, aI v1), (false, aI v2)] (List.forall_mem_cons.mpr ⟨rfl, List.forall_mem_cons.mpr ⟨rfl, List.forall_mem_cons.mpr ⟨rfl, (fun _ hn => absurd hn List.not_mem_nil)⟩⟩⟩) 0 rfl ?_
  show AW κ pX12_far 3 (some (aI q.1), q.2) 0 [some (aR 12 0 0), some (aI v1), some (aI v2)] [] σ
  refine aw_seq [(.aload_n 0, 1, ax0), (.iload_n 1, 1, ax0)] (pc' := 2) (L' := [some (aR 12 0 0), some (aI v1), some (aI v2)]) (stk' := [aI v1, aR 12 0 0]) (σ' := σ) (g := []) (by decide +kernel) rfl rfl ?_
  obtain ⟨r3, σ2, h1, h⟩ := bnd_some h
  refine aw_cV (P' := pX12_isHouse) (idx := 88) (d' := 2) (c := 12) (n := 0) (k := 0) [aI v1] [] (ov := (some (aI r3))) (stk2 := [aI r3]) okp_X12_isHouse (by decide +kernel) ml_RX12_88 vok_X12_isHouse (by decide) rfl nar_X12_isHouse (by decide) rfl (Nat.le_of_ble_eq_true rfl) (ok_X12_isHouse h1) rfl ?_
  refine aw_if_eq (off := 11) (tgt := 16) (by decide +kernel) (by decide) (fun c1 => ?_) (fun c1 => ?_)
  · rw [if_pos c1] at h
    refine aw_forget (L' := [none, none, none]) (lsub_n (lsub_n (lsub_n (lsub_0)))) ?_
    exact ok_X12_far_16 σ2 _ h
  · rw [if_neg c1] at h
    refine aw_seq [(.aload_n 0, 1, ax0), (.iload_n 2, 1, ax0)] (pc' := 10) (L' := [some (aR 12 0 0), some (aI v1), some (aI v2)]) (stk' := [aI v2, aR 12 0 0]) (σ' := σ2) (g := []) (by decide +kernel) rfl rfl ?_
    obtain ⟨r6, σ5, h4, h⟩ := bnd_some h
    refine aw_cV (P' := pX12_isHouse) (idx := 88) (d' := 2) (c := 12) (n := 0) (k := 0) [aI v2] [] (ov := (some (aI r6))) (stk2 := [aI r6]) okp_X12_isHouse (by decide +kernel) ml_RX12_88 vok_X12_isHouse (by decide) rfl nar_X12_isHouse (by decide) rfl (Nat.le_of_ble_eq_true rfl) (ok_X12_isHouse h4) rfl ?_
    refine aw_if_ne (off := 5) (tgt := 18) (by decide +kernel) (by decide) (fun c1 => ?_) (fun c1 => ?_)
    · rw [if_neg c1] at h
      refine aw_seq [(.aload_n 0, 1, ax0)] (pc' := 19) (L' := [some (aR 12 0 0), some (aI v1), some (aI v2)]) (stk' := [aR 12 0 0]) (σ' := σ5) (g := []) (by decide +kernel) rfl rfl ?_
      obtain ⟨σ8, h7, h⟩ := bndV_some h
      refine aw_cV (P' := pX12_layFars) (idx := 431) (d' := 2) (c := 12) (n := 0) (k := 0) [] [] (ov := none) (stk2 := []) okp_X12_layFars (by decide +kernel) ml_RX12_431 vok_X12_layFars (by decide) rfl nar_X12_layFars (by decide) rfl (Nat.le_of_ble_eq_true rfl) (ok_X12_layFars h7) rfl ?_
      obtain ⟨hg, h⟩ := grd_some h
      refine aw_seq [(.aload_n 0, 1, ax0), (.getfield 50, 3, (axF 12 27 (2, 10, 13, some 64))), (.bipush 8, 2, (axI 8)), (.iload_n 1, 1, ax0), (.imul, 1, ax0), (.iload_n 2, 1, ax0), (.iadd, 1, ax0), (.iaload, 1, ax0), (.ldc_w 430, 3, (axI 1000000))] (pc' := 36) (L' := [some (aR 12 0 0), some (aI v1), some (aI v2)]) (stk' := [aI 1000000, aI (σ8.1 10 (ix ((8 * v1) + v2)))]) (σ' := σ8) (g := [inb ((8 * v1) + v2) 64]) (by decide +kernel) rfl hg ?_
      refine aw_icmp_lt (off := 7) (tgt := 43) (by decide +kernel) (by decide) (fun c1 => ?_) (fun c1 => ?_)
      · rw [if_pos c1] at h
        obtain ⟨hg, h⟩ := grd_some h
        refine aw_seq [(.aload_n 0, 1, ax0), (.getfield 50, 3, (axF 12 27 (2, 10, 13, some 64))), (.bipush 8, 2, (axI 8)), (.iload_n 1, 1, ax0), (.imul, 1, ax0), (.iload_n 2, 1, ax0), (.iadd, 1, ax0), (.iaload, 1, ax0)] (pc' := 54) (L' := [some (aR 12 0 0), some (aI v1), some (aI v2)]) (stk' := [aI (σ8.1 10 (ix ((8 * v1) + v2)))]) (σ' := σ8) (g := [inb ((8 * v1) + v2) 64]) (by decide +kernel) rfl hg ?_
        refine aw_forget (L' := [none, none, none]) (lsub_n (lsub_n (lsub_n (lsub_0)))) ?_
        exact ok_X12_far_54 (σ8.1 10 (ix ((8 * v1) + v2))) σ8 _ h
      · rw [if_neg c1] at h
        refine aw_seq [(.iconst (-1), 1, (axI (-1)))] (pc' := 40) (L' := [some (aR 12 0 0), some (aI v1), some (aI v2)]) (stk' := [aI (-1)]) (σ' := σ8) (g := []) (by decide +kernel) rfl rfl ?_
        refine aw_goto (off := 14) (tgt := 54) (by decide +kernel) (by decide) ?_
        refine aw_forget (L' := [none, none, none]) (lsub_n (lsub_n (lsub_n (lsub_0)))) ?_
        exact ok_X12_far_54 (-1) σ8 _ h
    · rw [if_pos c1] at h
      refine aw_forget (L' := [none, none, none]) (lsub_n (lsub_n (lsub_n (lsub_0)))) ?_
      exact ok_X12_far_16 σ5 _ h
def f_X12_odd_36  (rec_4 : Int32 → Int32 → Sg → Option (Int32 × Sg)) (v2 : Int32) (s0 : Int32) (s1 : Int32) (σ : Sg) : Option (Int32 × Sg) :=
  rec_4 (s0 ||| s1) (v2 + 1) σ
set_option maxRecDepth 100000 in
set_option maxHeartbeats 4000000 in
theorem ok_X12_odd_36 {κ : Kd}   {rec_4 : Int32 → Int32 → Sg → Option (Int32 × Sg)} (hrec_4 : ∀ (v1 : Int32) (v2 : Int32) (σ : Sg) (q : (Int32 × Sg)), rec_4 v1 v2 σ = some q → AW κ pX12_odd 3 (some (aI q.1), q.2) 4 [some (aR 12 0 0), some (aI v1), some (aI v2)] [] σ) : ∀ (v2 : Int32) (s0 : Int32) (s1 : Int32) (σ : Sg) (q : (Int32 × Sg)), f_X12_odd_36 rec_4 v2 s0 s1 σ = some q → AW κ pX12_odd 3 (some (aI q.1), q.2) 36 [some (aR 12 0 0), none, some (aI v2)] [aI s1, aI s0] σ := by
  intro v2 s0 s1 σ q h
  unfold f_X12_odd_36 at h
  refine aw_seq [(.ior, 1, ax0), (.istore_n 1, 1, ax0), (.iinc 2 1, 3, (axI 1))] (pc' := 41) (L' := [some (aR 12 0 0), some (aI (s0 ||| s1)), some (aI (v2 + 1))]) (stk' := []) (σ' := σ) (g := []) (by decide +kernel) rfl rfl ?_
  refine aw_goto (off := (-37)) (tgt := 4) (by decide +kernel) (by decide) ?_
  refine aw_forget (L' := [some (aR 12 0 0), some (aI (s0 ||| s1)), some (aI (v2 + 1))]) (lsub_s (lsub_s (lsub_s (lsub_0)))) ?_
  exact hrec_4 (s0 ||| s1) (v2 + 1) σ _ h
def f_X12_odd_4   : Nat → Int32 → Int32 → Sg → Option (Int32 × Sg)
  | 0, _, _, _ => none
  | fu + 1, v1, v2, σ =>
    grd (inb 0 1986 && true) <|
    if (σ.1 1 (ix 0)) ≤ v2 then (
      some (v1, σ)
    ) else (
      bnd (f_X12_beside v2 σ) fun r3 σ2 =>
      bnd (f_X12_bits r3 σ2) fun r6 σ5 =>
      grd ((!decide ((2 : Int32) = 0)) && true) <|
      if (jrem r6 2) = 1 then (
        f_X12_odd_36 (f_X12_odd_4 fu) v2 v1 (shl 1 v2) σ5
      ) else (
        f_X12_odd_36 (f_X12_odd_4 fu) v2 v1 0 σ5
      )
    )
set_option maxRecDepth 100000 in
set_option maxHeartbeats 4000000 in
theorem ok_X12_odd_4 {κ : Kd}    : ∀ (fu : Nat) (v1 : Int32) (v2 : Int32) (σ : Sg) (q : (Int32 × Sg)), f_X12_odd_4 fu v1 v2 σ = some q → AW κ pX12_odd 3 (some (aI q.1), q.2) 4 [some (aR 12 0 0), some (aI v1), some (aI v2)] [] σ := by
  intro fu
  induction fu with
  | zero =>
    intro v1 v2 σ q h
    unfold f_X12_odd_4 at h
    cases h
  | succ fu ih =>
    intro v1 v2 σ q h
    unfold f_X12_odd_4 at h
    obtain ⟨hg, h⟩ := grd_some h
    refine aw_seq [(.iload_n 2, 1, ax0), (.aload_n 0, 1, ax0), (.getfield 7, 3, (axF 12 0 (2, 1, 13, some 1986))), (.iconst 0, 1, (axI 0)), (.iaload, 1, ax0)] (pc' := 11) (L' := [some (aR 12 0 0), some (aI v1), some (aI v2)]) (stk' := [aI (σ.1 1 (ix 0)), aI v2]) (σ' := σ) (g := [inb 0 1986]) (by decide +kernel) rfl hg ?_
    refine aw_icmp_ge (off := 33) (tgt := 44) (by decide +kernel) (by decide) (fun c1 => ?_) (fun c1 => ?_)
    · rw [if_pos c1] at h
      refine aw_seq [(.iload_n 1, 1, ax0)] (pc' := 45) (L' := [some (aR 12 0 0), some (aI v1), some (aI v2)]) (stk' := [aI v1]) (σ' := σ) (g := []) (by decide +kernel) rfl rfl ?_
      cases h
      exact aw_iret rfl (by decide +kernel)
    · rw [if_neg c1] at h
      refine aw_seq [(.iload_n 1, 1, ax0), (.aload_n 0, 1, ax0), (.iload_n 2, 1, ax0)] (pc' := 17) (L' := [some (aR 12 0 0), some (aI v1), some (aI v2)]) (stk' := [aI v2, aR 12 0 0, aI v1]) (σ' := σ) (g := []) (by decide +kernel) rfl rfl ?_
      obtain ⟨r3, σ2, h1, h⟩ := bnd_some h
      refine aw_cV (P' := pX12_beside) (idx := 294) (d' := 2) (c := 12) (n := 0) (k := 0) [aI v2] [aI v1] (ov := (some (aI r3))) (stk2 := [aI r3, aI v1]) okp_X12_beside (by decide +kernel) ml_RX12_294 vok_X12_beside (by decide) rfl nar_X12_beside (by decide) rfl (Nat.le_of_ble_eq_true rfl) (ok_X12_beside h1) rfl ?_
      obtain ⟨r6, σ5, h4, h⟩ := bnd_some h
      refine aw_cS (P' := pX12_bits) (idx := 300) (d' := 1) [aI r3] [aI v1] (ov := (some (aI r6))) (stk2 := [aI r6, aI v1]) okp_X12_bits (by decide +kernel) ml_RX12_300 tok_X12_bits nar_X12_bits (by decide) rfl (Nat.le_of_ble_eq_true rfl) (ok_X12_bits h4) rfl ?_
      obtain ⟨hg, h⟩ := grd_some h
      refine aw_seq [(.iconst 2, 1, (axI 2)), (.irem, 1, ax0), (.iconst 1, 1, (axI 1))] (pc' := 26) (L' := [some (aR 12 0 0), some (aI v1), some (aI v2)]) (stk' := [aI 1, aI (jrem r6 2), aI v1]) (σ' := σ5) (g := [(!decide ((2 : Int32) = 0))]) (by decide +kernel) rfl hg ?_
      refine aw_icmp_ne (off := 9) (tgt := 35) (by decide +kernel) (by decide) (fun c1 => ?_) (fun c1 => ?_)
      · rw [if_neg c1] at h
        refine aw_seq [(.iconst 0, 1, (axI 0))] (pc' := 36) (L' := [some (aR 12 0 0), some (aI v1), some (aI v2)]) (stk' := [aI 0, aI v1]) (σ' := σ5) (g := []) (by decide +kernel) rfl rfl ?_
        refine aw_forget (L' := [some (aR 12 0 0), none, some (aI v2)]) (lsub_s (lsub_n (lsub_s (lsub_0)))) ?_
        exact ok_X12_odd_36 ih v2 v1 0 σ5 _ h
      · rw [if_pos c1] at h
        refine aw_seq [(.iconst 1, 1, (axI 1)), (.iload_n 2, 1, ax0), (.ishl, 1, ax0)] (pc' := 32) (L' := [some (aR 12 0 0), some (aI v1), some (aI v2)]) (stk' := [aI (shl 1 v2), aI v1]) (σ' := σ5) (g := []) (by decide +kernel) rfl rfl ?_
        refine aw_goto (off := 4) (tgt := 36) (by decide +kernel) (by decide) ?_
        refine aw_forget (L' := [some (aR 12 0 0), none, some (aI v2)]) (lsub_s (lsub_n (lsub_s (lsub_0)))) ?_
        exact ok_X12_odd_36 ih v2 v1 (shl 1 v2) σ5 _ h
def f_X12_odd  (σ : Sg) : Option (Int32 × Sg) :=
  f_X12_odd_4 FU 0 0 σ
set_option maxRecDepth 100000 in
set_option maxHeartbeats 4000000 in
theorem ok_X12_odd {κ : Kd}  {σ : Sg} {q : (Int32 × Sg)} (h : f_X12_odd σ = some q) : AMet κ pX12_odd 3 [aR 12 0 0] σ (some (aI q.1), q.2) := by
  unfold f_X12_odd at h
  refine amet_of okp_X12_odd [(false, aR 12 0 0)] (List.forall_mem_cons.mpr ⟨rfl, (fun _ hn => absurd hn List.not_mem_nil)⟩) 2 rfl ?_
  show AW κ pX12_odd 3 (some (aI q.1), q.2) 0 [some (aR 12 0 0), none, none] [] σ
  refine aw_seq [(.iconst 0, 1, (axI 0)), (.istore_n 1, 1, ax0), (.iconst 0, 1, (axI 0)), (.istore_n 2, 1, ax0)] (pc' := 4) (L' := [some (aR 12 0 0), some (aI 0), some (aI 0)]) (stk' := []) (σ' := σ) (g := []) (by decide +kernel) rfl rfl ?_
  refine aw_forget (L' := [some (aR 12 0 0), some (aI 0), some (aI 0)]) (lsub_s (lsub_s (lsub_s (lsub_0)))) ?_
  exact ok_X12_odd_4 FU 0 0 σ _ h
def f_X12_lowOf_2   : Nat → Int32 → Int32 → Sg → Option (Int32 × Sg)
  | 0, _, _, _ => none
  | fu + 1, v0, v1, σ =>
    bnd (f_X12_has v0 v1 σ) fun r3 σ2 =>
    if r3 = 0 then (
      (f_X12_lowOf_2 fu) v0 (v1 + 1) σ2
    ) else (
      some (v1, σ2)
    )
set_option maxRecDepth 100000 in
set_option maxHeartbeats 4000000 in
theorem ok_X12_lowOf_2 {κ : Kd}    : ∀ (fu : Nat) (v0 : Int32) (v1 : Int32) (σ : Sg) (q : (Int32 × Sg)), f_X12_lowOf_2 fu v0 v1 σ = some q → AW κ pX12_lowOf 2 (some (aI q.1), q.2) 2 [some (aI v0), some (aI v1)] [] σ := by
  intro fu
  induction fu with
  | zero =>
    intro v0 v1 σ q h
    unfold f_X12_lowOf_2 at h
    cases h
  | succ fu ih =>
    intro v0 v1 σ q h
    unfold f_X12_lowOf_2 at h
    refine aw_seq [(.iload_n 0, 1, ax0), (.iload_n 1, 1, ax0)] (pc' := 4) (L' := [some (aI v0), some (aI v1)]) (stk' := [aI v1, aI v0]) (σ' := σ) (g := []) (by decide +kernel) rfl rfl ?_
    obtain ⟨r3, σ2, h1, h⟩ := bnd_some h
    refine aw_cS (P' := pX12_has) (idx := 250) (d' := 1) [aI v0, aI v1] [] (ov := (some (aI r3))) (stk2 := [aI r3]) okp_X12_has (by decide +kernel) ml_RX12_250 tok_X12_has nar_X12_has (by decide) rfl (Nat.le_of_ble_eq_true rfl) (ok_X12_has h1) rfl ?_
    refine aw_if_ne (off := 9) (tgt := 16) (by decide +kernel) (by decide) (fun c1 => ?_) (fun c1 => ?_)
    · rw [if_neg c1] at h
      refine aw_seq [(.iload_n 1, 1, ax0)] (pc' := 17) (L' := [some (aI v0), some (aI v1)]) (stk' := [aI v1]) (σ' := σ2) (g := []) (by decide +kernel) rfl rfl ?_
      cases h
      exact aw_iret rfl (by decide +kernel)
    · rw [if_pos c1] at h
      refine aw_seq [(.iinc 1 1, 3, (axI 1))] (pc' := 13) (L' := [some (aI v0), some (aI (v1 + 1))]) (stk' := []) (σ' := σ2) (g := []) (by decide +kernel) rfl rfl ?_
      refine aw_goto (off := (-11)) (tgt := 2) (by decide +kernel) (by decide) ?_
      refine aw_forget (L' := [some (aI v0), some (aI (v1 + 1))]) (lsub_s (lsub_s (lsub_0))) ?_
      exact ih v0 (v1 + 1) σ2 _ h
def f_X12_lowOf (v0 : Int32) (σ : Sg) : Option (Int32 × Sg) :=
  f_X12_lowOf_2 FU v0 0 σ
set_option maxRecDepth 100000 in
set_option maxHeartbeats 4000000 in
theorem ok_X12_lowOf {κ : Kd} {v0 : Int32} {σ : Sg} {q : (Int32 × Sg)} (h : f_X12_lowOf v0 σ = some q) : AMet κ pX12_lowOf 2 [aI v0] σ (some (aI q.1), q.2) := by
  unfold f_X12_lowOf at h
  refine amet_of okp_X12_lowOf [(false, aI v0)] (List.forall_mem_cons.mpr ⟨rfl, (fun _ hn => absurd hn List.not_mem_nil)⟩) 1 rfl ?_
  show AW κ pX12_lowOf 2 (some (aI q.1), q.2) 0 [some (aI v0), none] [] σ
  refine aw_seq [(.iconst 0, 1, (axI 0)), (.istore_n 1, 1, ax0)] (pc' := 2) (L' := [some (aI v0), some (aI 0)]) (stk' := []) (σ' := σ) (g := []) (by decide +kernel) rfl rfl ?_
  refine aw_forget (L' := [some (aI v0), some (aI 0)]) (lsub_s (lsub_s (lsub_0))) ?_
  exact ok_X12_lowOf_2 FU v0 0 σ _ h
def f_X12_isJoined_30  (rec_4 : Int32 → Int32 → Sg → Option (Int32 × Sg)) (v2 : Int32) (s0 : Int32) (s1 : Int32) (σ : Sg) : Option (Int32 × Sg) :=
  rec_4 (s0 ||| s1) (v2 + 1) σ
set_option maxRecDepth 100000 in
set_option maxHeartbeats 4000000 in
theorem ok_X12_isJoined_30 {κ : Kd}   {rec_4 : Int32 → Int32 → Sg → Option (Int32 × Sg)} (hrec_4 : ∀ (v1 : Int32) (v2 : Int32) (σ : Sg) (q : (Int32 × Sg)), rec_4 v1 v2 σ = some q → AW κ pX12_isJoined 4 (some (aI q.1), q.2) 4 [some (aR 12 0 0), some (aI v1), some (aI v2)] [] σ) : ∀ (v2 : Int32) (s0 : Int32) (s1 : Int32) (σ : Sg) (q : (Int32 × Sg)), f_X12_isJoined_30 rec_4 v2 s0 s1 σ = some q → AW κ pX12_isJoined 4 (some (aI q.1), q.2) 30 [some (aR 12 0 0), none, some (aI v2)] [aI s1, aI s0] σ := by
  intro v2 s0 s1 σ q h
  unfold f_X12_isJoined_30 at h
  refine aw_seq [(.ior, 1, ax0), (.istore_n 1, 1, ax0), (.iinc 2 1, 3, (axI 1))] (pc' := 35) (L' := [some (aR 12 0 0), some (aI (s0 ||| s1)), some (aI (v2 + 1))]) (stk' := []) (σ' := σ) (g := []) (by decide +kernel) rfl rfl ?_
  refine aw_goto (off := (-31)) (tgt := 4) (by decide +kernel) (by decide) ?_
  refine aw_forget (L' := [some (aR 12 0 0), some (aI (s0 ||| s1)), some (aI (v2 + 1))]) (lsub_s (lsub_s (lsub_s (lsub_0)))) ?_
  exact hrec_4 (s0 ||| s1) (v2 + 1) σ _ h
def f_X12_isJoined_63   (s0 : Int32) (σ : Sg) : Option (Int32 × Sg) :=
  grd (bz s0) <| some (s0, σ)
set_option maxRecDepth 100000 in
set_option maxHeartbeats 4000000 in
theorem ok_X12_isJoined_63 {κ : Kd}    : ∀ (s0 : Int32) (σ : Sg) (q : (Int32 × Sg)), f_X12_isJoined_63 s0 σ = some q → AW κ pX12_isJoined 4 (some (aI q.1), q.2) 63 [none, none, none] [aI s0] σ := by
  intro s0 σ q h
  unfold f_X12_isJoined_63 at h
  obtain ⟨hg, h⟩ := grd_some h
  cases h
  exact aw_zret rfl hg (by decide +kernel)
def f_X12_isJoined_58    (σ : Sg) : Option (Int32 × Sg) :=
  f_X12_isJoined_63 1 σ
set_option maxRecDepth 100000 in
set_option maxHeartbeats 4000000 in
theorem ok_X12_isJoined_58 {κ : Kd}    : ∀  (σ : Sg) (q : (Int32 × Sg)), f_X12_isJoined_58  σ = some q → AW κ pX12_isJoined 4 (some (aI q.1), q.2) 58 [none, none, none] [] σ := by
  intro  σ q h
  unfold f_X12_isJoined_58 at h
  refine aw_seq [(.iconst 1, 1, (axI 1))] (pc' := 59) (L' := [none, none, none]) (stk' := [aI 1]) (σ' := σ) (g := []) (by decide +kernel) rfl rfl ?_
  refine aw_goto (off := 4) (tgt := 63) (by decide +kernel) (by decide) ?_
  refine aw_forget (L' := [none, none, none]) (lsub_n (lsub_n (lsub_n (lsub_0)))) ?_
  exact ok_X12_isJoined_63 1 σ _ h
def f_X12_isJoined_4   : Nat → Int32 → Int32 → Sg → Option (Int32 × Sg)
  | 0, _, _, _ => none
  | fu + 1, v1, v2, σ =>
    grd (inb 0 1986 && true) <|
    if (σ.1 1 (ix 0)) ≤ v2 then (
      if v1 = 0 then (
        f_X12_isJoined_58 σ
      ) else (
        bnd (f_X12_lowOf v1 σ) fun r3 σ2 =>
        bnd (f_X12_all σ2) fun r6 σ5 =>
        bnd (f_X12_heapOf r3 r6 σ5) fun r9 σ8 =>
        if r9 = v1 then (
          f_X12_isJoined_58 σ8
        ) else (
          f_X12_isJoined_63 0 σ8
        )
      )
    ) else (
      bnd (f_X12_beside v2 σ) fun r12 σ11 =>
      if r12 = 0 then (
        f_X12_isJoined_30 (f_X12_isJoined_4 fu) v2 v1 0 σ11
      ) else (
        f_X12_isJoined_30 (f_X12_isJoined_4 fu) v2 v1 (shl 1 v2) σ11
      )
    )
set_option maxRecDepth 100000 in
set_option maxHeartbeats 4000000 in
theorem ok_X12_isJoined_4 {κ : Kd}    : ∀ (fu : Nat) (v1 : Int32) (v2 : Int32) (σ : Sg) (q : (Int32 × Sg)), f_X12_isJoined_4 fu v1 v2 σ = some q → AW κ pX12_isJoined 4 (some (aI q.1), q.2) 4 [some (aR 12 0 0), some (aI v1), some (aI v2)] [] σ := by
  intro fu
  induction fu with
  | zero =>
    intro v1 v2 σ q h
    unfold f_X12_isJoined_4 at h
    cases h
  | succ fu ih =>
    intro v1 v2 σ q h
    unfold f_X12_isJoined_4 at h
    obtain ⟨hg, h⟩ := grd_some h
    refine aw_seq [(.iload_n 2, 1, ax0), (.aload_n 0, 1, ax0), (.getfield 7, 3, (axF 12 0 (2, 1, 13, some 1986))), (.iconst 0, 1, (axI 0)), (.iaload, 1, ax0)] (pc' := 11) (L' := [some (aR 12 0 0), some (aI v1), some (aI v2)]) (stk' := [aI (σ.1 1 (ix 0)), aI v2]) (σ' := σ) (g := [inb 0 1986]) (by decide +kernel) rfl hg ?_
    refine aw_icmp_ge (off := 27) (tgt := 38) (by decide +kernel) (by decide) (fun c1 => ?_) (fun c1 => ?_)
    · rw [if_pos c1] at h
      refine aw_seq [(.iload_n 1, 1, ax0)] (pc' := 39) (L' := [some (aR 12 0 0), some (aI v1), some (aI v2)]) (stk' := [aI v1]) (σ' := σ) (g := []) (by decide +kernel) rfl rfl ?_
      refine aw_if_eq (off := 19) (tgt := 58) (by decide +kernel) (by decide) (fun c1 => ?_) (fun c1 => ?_)
      · rw [if_pos c1] at h
        refine aw_forget (L' := [none, none, none]) (lsub_n (lsub_n (lsub_n (lsub_0)))) ?_
        exact ok_X12_isJoined_58 σ _ h
      · rw [if_neg c1] at h
        refine aw_seq [(.aload_n 0, 1, ax0), (.iload_n 1, 1, ax0)] (pc' := 44) (L' := [some (aR 12 0 0), some (aI v1), some (aI v2)]) (stk' := [aI v1, aR 12 0 0]) (σ' := σ) (g := []) (by decide +kernel) rfl rfl ?_
        obtain ⟨r3, σ2, h1, h⟩ := bnd_some h
        refine aw_cS (P' := pX12_lowOf) (idx := 434) (d' := 2) [aI v1] [aR 12 0 0] (ov := (some (aI r3))) (stk2 := [aI r3, aR 12 0 0]) okp_X12_lowOf (by decide +kernel) ml_RX12_434 tok_X12_lowOf nar_X12_lowOf (by decide) rfl (Nat.le_of_ble_eq_true rfl) (ok_X12_lowOf h1) rfl ?_
        refine aw_seq [(.aload_n 0, 1, ax0)] (pc' := 48) (L' := [some (aR 12 0 0), some (aI v1), some (aI v2)]) (stk' := [aR 12 0 0, aI r3, aR 12 0 0]) (σ' := σ2) (g := []) (by decide +kernel) rfl rfl ?_
        obtain ⟨r6, σ5, h4, h⟩ := bnd_some h
        refine aw_cV (P' := pX12_all) (idx := 418) (d' := 1) (c := 12) (n := 0) (k := 0) [] [aI r3, aR 12 0 0] (ov := (some (aI r6))) (stk2 := [aI r6, aI r3, aR 12 0 0]) okp_X12_all (by decide +kernel) ml_RX12_418 vok_X12_all (by decide) rfl nar_X12_all (by decide) rfl (Nat.le_of_ble_eq_true rfl) (ok_X12_all h4) rfl ?_
        obtain ⟨r9, σ8, h7, h⟩ := bnd_some h
        refine aw_cV (P' := pX12_heapOf) (idx := 421) (d' := 3) (c := 12) (n := 0) (k := 0) [aI r3, aI r6] [] (ov := (some (aI r9))) (stk2 := [aI r9]) okp_X12_heapOf (by decide +kernel) ml_RX12_421 vok_X12_heapOf (by decide) rfl nar_X12_heapOf (by decide) rfl (Nat.le_of_ble_eq_true rfl) (ok_X12_heapOf h7) rfl ?_
        refine aw_seq [(.iload_n 1, 1, ax0)] (pc' := 55) (L' := [some (aR 12 0 0), some (aI v1), some (aI v2)]) (stk' := [aI v1, aI r9]) (σ' := σ8) (g := []) (by decide +kernel) rfl rfl ?_
        refine aw_icmp_ne (off := 7) (tgt := 62) (by decide +kernel) (by decide) (fun c1 => ?_) (fun c1 => ?_)
        · rw [if_neg c1] at h
          refine aw_seq [(.iconst 0, 1, (axI 0))] (pc' := 63) (L' := [some (aR 12 0 0), some (aI v1), some (aI v2)]) (stk' := [aI 0]) (σ' := σ8) (g := []) (by decide +kernel) rfl rfl ?_
          refine aw_forget (L' := [none, none, none]) (lsub_n (lsub_n (lsub_n (lsub_0)))) ?_
          exact ok_X12_isJoined_63 0 σ8 _ h
        · rw [if_pos c1] at h
          refine aw_forget (L' := [none, none, none]) (lsub_n (lsub_n (lsub_n (lsub_0)))) ?_
          exact ok_X12_isJoined_58 σ8 _ h
    · rw [if_neg c1] at h
      refine aw_seq [(.iload_n 1, 1, ax0), (.aload_n 0, 1, ax0), (.iload_n 2, 1, ax0)] (pc' := 17) (L' := [some (aR 12 0 0), some (aI v1), some (aI v2)]) (stk' := [aI v2, aR 12 0 0, aI v1]) (σ' := σ) (g := []) (by decide +kernel) rfl rfl ?_
      obtain ⟨r12, σ11, h10, h⟩ := bnd_some h
      refine aw_cV (P' := pX12_beside) (idx := 294) (d' := 2) (c := 12) (n := 0) (k := 0) [aI v2] [aI v1] (ov := (some (aI r12))) (stk2 := [aI r12, aI v1]) okp_X12_beside (by decide +kernel) ml_RX12_294 vok_X12_beside (by decide) rfl nar_X12_beside (by decide) rfl (Nat.le_of_ble_eq_true rfl) (ok_X12_beside h10) rfl ?_
      refine aw_if_eq (off := 9) (tgt := 29) (by decide +kernel) (by decide) (fun c1 => ?_) (fun c1 => ?_)
      · rw [if_pos c1] at h
        refine aw_seq [(.iconst 0, 1, (axI 0))] (pc' := 30) (L' := [some (aR 12 0 0), some (aI v1), some (aI v2)]) (stk' := [aI 0, aI v1]) (σ' := σ11) (g := []) (by decide +kernel) rfl rfl ?_
        refine aw_forget (L' := [some (aR 12 0 0), none, some (aI v2)]) (lsub_s (lsub_n (lsub_s (lsub_0)))) ?_
        exact ok_X12_isJoined_30 ih v2 v1 0 σ11 _ h
      · rw [if_neg c1] at h
        refine aw_seq [(.iconst 1, 1, (axI 1)), (.iload_n 2, 1, ax0), (.ishl, 1, ax0)] (pc' := 26) (L' := [some (aR 12 0 0), some (aI v1), some (aI v2)]) (stk' := [aI (shl 1 v2), aI v1]) (σ' := σ11) (g := []) (by decide +kernel) rfl rfl ?_
        refine aw_goto (off := 4) (tgt := 30) (by decide +kernel) (by decide) ?_
        refine aw_forget (L' := [some (aR 12 0 0), none, some (aI v2)]) (lsub_s (lsub_n (lsub_s (lsub_0)))) ?_
        exact ok_X12_isJoined_30 ih v2 v1 (shl 1 v2) σ11 _ h
def f_X12_isJoined  (σ : Sg) : Option (Int32 × Sg) :=
  f_X12_isJoined_4 FU 0 0 σ
set_option maxRecDepth 100000 in
set_option maxHeartbeats 4000000 in
theorem ok_X12_isJoined {κ : Kd}  {σ : Sg} {q : (Int32 × Sg)} (h : f_X12_isJoined σ = some q) : AMet κ pX12_isJoined 4 [aR 12 0 0] σ (some (aI q.1), q.2) := by
  unfold f_X12_isJoined at h
  refine amet_of okp_X12_isJoined [(false, aR 12 0 0)] (List.forall_mem_cons.mpr ⟨rfl, (fun _ hn => absurd hn List.not_mem_nil)⟩) 2 rfl ?_
  show AW κ pX12_isJoined 4 (some (aI q.1), q.2) 0 [some (aR 12 0 0), none, none] [] σ
  refine aw_seq [(.iconst 0, 1, (axI 0)), (.istore_n 1, 1, ax0), (.iconst 0, 1, (axI 0)), (.istore_n 2, 1, ax0)] (pc' := 4) (L' := [some (aR 12 0 0), some (aI 0), some (aI 0)]) (stk' := []) (σ' := σ) (g := []) (by decide +kernel) rfl rfl ?_
  refine aw_forget (L' := [some (aR 12 0 0), some (aI 0), some (aI 0)]) (lsub_s (lsub_s (lsub_s (lsub_0)))) ?_
  exact ok_X12_isJoined_4 FU 0 0 σ _ h
def f_X12_least_10   (s0 : Int32) (σ : Sg) : Option (Int32 × Sg) :=
  some (s0, σ)
set_option maxRecDepth 100000 in
set_option maxHeartbeats 4000000 in
theorem ok_X12_least_10 {κ : Kd}    : ∀ (s0 : Int32) (σ : Sg) (q : (Int32 × Sg)), f_X12_least_10 s0 σ = some q → AW κ pX12_least 1 (some (aI q.1), q.2) 10 [none, none] [aI s0] σ := by
  intro s0 σ q h
  unfold f_X12_least_10 at h
  cases h
  exact aw_iret rfl (by decide +kernel)
def f_X12_least (v0 : Int32) (v1 : Int32) (σ : Sg) : Option (Int32 × Sg) :=
  if v1 ≤ v0 then (
    f_X12_least_10 v1 σ
  ) else (
    f_X12_least_10 v0 σ
  )
set_option maxRecDepth 100000 in
set_option maxHeartbeats 4000000 in
theorem ok_X12_least {κ : Kd} {v0 : Int32} {v1 : Int32} {σ : Sg} {q : (Int32 × Sg)} (h : f_X12_least v0 v1 σ = some q) : AMet κ pX12_least 1 [aI v0, aI v1] σ (some (aI q.1), q.2) := by
  unfold f_X12_least at h
  refine amet_of okp_X12_least [(false, aI v0), (false, aI v1)] (List.forall_mem_cons.mpr ⟨rfl, List.forall_mem_cons.mpr ⟨rfl, (fun _ hn => absurd hn List.not_mem_nil)⟩⟩) 0 rfl ?_
  show AW κ pX12_least 1 (some (aI q.1), q.2) 0 [some (aI v0), some (aI v1)] [] σ
  refine aw_seq [(.iload_n 0, 1, ax0), (.iload_n 1, 1, ax0)] (pc' := 2) (L' := [some (aI v0), some (aI v1)]) (stk' := [aI v1, aI v0]) (σ' := σ) (g := []) (by decide +kernel) rfl rfl ?_
  refine aw_icmp_ge (off := 7) (tgt := 9) (by decide +kernel) (by decide) (fun c1 => ?_) (fun c1 => ?_)
  · rw [if_pos c1] at h
    refine aw_seq [(.iload_n 1, 1, ax0)] (pc' := 10) (L' := [some (aI v0), some (aI v1)]) (stk' := [aI v1]) (σ' := σ) (g := []) (by decide +kernel) rfl rfl ?_
    refine aw_forget (L' := [none, none]) (lsub_n (lsub_n (lsub_0))) ?_
    exact ok_X12_least_10 v1 σ _ h
  · rw [if_neg c1] at h
    refine aw_seq [(.iload_n 0, 1, ax0)] (pc' := 6) (L' := [some (aI v0), some (aI v1)]) (stk' := [aI v0]) (σ' := σ) (g := []) (by decide +kernel) rfl rfl ?_
    refine aw_goto (off := 4) (tgt := 10) (by decide +kernel) (by decide) ?_
    refine aw_forget (L' := [none, none]) (lsub_n (lsub_n (lsub_0))) ?_
    exact ok_X12_least_10 v0 σ _ h
def f_X12_layPairs_102  (rec_39 : Int32 → Int32 → Int32 → Sg → Option Sg) (v1 : Int32) (v2 : Int32) (v3 : Int32) (σ : Sg) : Option Sg :=
  rec_39 v1 v2 (v3 + 1) σ
set_option maxRecDepth 100000 in
set_option maxHeartbeats 4000000 in
theorem ok_X12_layPairs_102 {κ : Kd}   {rec_39 : Int32 → Int32 → Int32 → Sg → Option Sg} (hrec_39 : ∀ (v1 : Int32) (v2 : Int32) (v3 : Int32) (σ : Sg) (q : Sg), rec_39 v1 v2 v3 σ = some q → AW κ pX12_layPairs 3 (none, q) 39 [some (aR 12 0 0), some (aI v1), some (aI v2), some (aI v3)] [] σ) : ∀ (v1 : Int32) (v2 : Int32) (v3 : Int32) (σ : Sg) (q : Sg), f_X12_layPairs_102 rec_39 v1 v2 v3 σ = some q → AW κ pX12_layPairs 3 (none, q) 102 [some (aR 12 0 0), some (aI v1), some (aI v2), some (aI v3)] [] σ := by
  intro v1 v2 v3 σ q h
  unfold f_X12_layPairs_102 at h
  refine aw_seq [(.iinc 3 1, 3, (axI 1))] (pc' := 105) (L' := [some (aR 12 0 0), some (aI v1), some (aI v2), some (aI (v3 + 1))]) (stk' := []) (σ' := σ) (g := []) (by decide +kernel) rfl rfl ?_
  refine aw_goto (off := (-66)) (tgt := 39) (by decide +kernel) (by decide) ?_
  refine aw_forget (L' := [some (aR 12 0 0), some (aI v1), some (aI v2), some (aI (v3 + 1))]) (lsub_s (lsub_s (lsub_s (lsub_s (lsub_0))))) ?_
  exact hrec_39 v1 v2 (v3 + 1) σ _ h
def f_X12_layPairs_39  (rec_13 : Int32 → Sg → Option Sg) : Nat → Int32 → Int32 → Int32 → Sg → Option Sg
  | 0, _, _, _, _ => none
  | fu + 1, v1, v2, v3, σ =>
    grd (inb 0 1986 && true) <|
    if (σ.1 1 (ix 0)) ≤ v3 then (
      rec_13 (v1 + 1) σ
    ) else (
      bnd (f_X12_has v1 v3 σ) fun r3 σ2 =>
      if r3 = 0 then (
        f_X12_layPairs_102 (f_X12_layPairs_39 rec_13 fu) v1 v2 v3 σ2
      ) else (
        grd (inb v1 256 && (inb ((8 * v2) + v3) 64 && (inb ((v1 &&& ((shl 1 v2) ^^^ (-1))) &&& ((shl 1 v3) ^^^ (-1))) 256 && true))) <|
        bnd (f_X12_least (σ2.1 11 (ix v1)) ((σ2.1 10 (ix ((8 * v2) + v3))) + (σ2.1 11 (ix ((v1 &&& ((shl 1 v2) ^^^ (-1))) &&& ((shl 1 v3) ^^^ (-1)))))) σ2) fun r6 σ5 =>
        grd (inb v1 256 && true) <|
        ltσ (wI σ5 11 (ix v1) r6) fun σ7 =>
        f_X12_layPairs_102 (f_X12_layPairs_39 rec_13 fu) v1 v2 v3 σ7
      )
    )
set_option maxRecDepth 100000 in
set_option maxHeartbeats 4000000 in
theorem ok_X12_layPairs_39 {κ : Kd}   {rec_13 : Int32 → Sg → Option Sg} (hrec_13 : ∀ (v1 : Int32) (σ : Sg) (q : Sg), rec_13 v1 σ = some q → AW κ pX12_layPairs 3 (none, q) 13 [some (aR 12 0 0), some (aI v1), none, none] [] σ) : ∀ (fu : Nat) (v1 : Int32) (v2 : Int32) (v3 : Int32) (σ : Sg) (q : Sg), f_X12_layPairs_39 rec_13 fu v1 v2 v3 σ = some q → AW κ pX12_layPairs 3 (none, q) 39 [some (aR 12 0 0), some (aI v1), some (aI v2), some (aI v3)] [] σ := by
  intro fu
  induction fu with
  | zero =>
    intro v1 v2 v3 σ q h
    unfold f_X12_layPairs_39 at h
    cases h
  | succ fu ih =>
    intro v1 v2 v3 σ q h
    unfold f_X12_layPairs_39 at h
    obtain ⟨hg, h⟩ := grd_some h
    refine aw_seq [(.iload_n 3, 1, ax0), (.aload_n 0, 1, ax0), (.getfield 7, 3, (axF 12 0 (2, 1, 13, some 1986))), (.iconst 0, 1, (axI 0)), (.iaload, 1, ax0)] (pc' := 46) (L' := [some (aR 12 0 0), some (aI v1), some (aI v2), some (aI v3)]) (stk' := [aI (σ.1 1 (ix 0)), aI v3]) (σ' := σ) (g := [inb 0 1986]) (by decide +kernel) rfl hg ?_
    refine aw_icmp_ge (off := 62) (tgt := 108) (by decide +kernel) (by decide) (fun c1 => ?_) (fun c1 => ?_)
    · rw [if_pos c1] at h
      refine aw_seq [(.iinc 1 1, 3, (axI 1))] (pc' := 111) (L' := [some (aR 12 0 0), some (aI (v1 + 1)), some (aI v2), some (aI v3)]) (stk' := []) (σ' := σ) (g := []) (by decide +kernel) rfl rfl ?_
      refine aw_goto (off := (-98)) (tgt := 13) (by decide +kernel) (by decide) ?_
      refine aw_forget (L' := [some (aR 12 0 0), some (aI (v1 + 1)), none, none]) (lsub_s (lsub_s (lsub_n (lsub_n (lsub_0))))) ?_
      exact hrec_13 (v1 + 1) σ _ h
    · rw [if_neg c1] at h
      refine aw_seq [(.iload_n 1, 1, ax0), (.iload_n 3, 1, ax0)] (pc' := 51) (L' := [some (aR 12 0 0), some (aI v1), some (aI v2), some (aI v3)]) (stk' := [aI v3, aI v1]) (σ' := σ) (g := []) (by decide +kernel) rfl rfl ?_
      obtain ⟨r3, σ2, h1, h⟩ := bnd_some h
      refine aw_cS (P' := pX12_has) (idx := 250) (d' := 1) [aI v1, aI v3] [] (ov := (some (aI r3))) (stk2 := [aI r3]) okp_X12_has (by decide +kernel) ml_RX12_250 tok_X12_has nar_X12_has (by decide) rfl (Nat.le_of_ble_eq_true rfl) (ok_X12_has h1) rfl ?_
      refine aw_if_eq (off := 48) (tgt := 102) (by decide +kernel) (by decide) (fun c1 => ?_) (fun c1 => ?_)
      · rw [if_pos c1] at h
        refine aw_forget (L' := [some (aR 12 0 0), some (aI v1), some (aI v2), some (aI v3)]) (lsub_s (lsub_s (lsub_s (lsub_s (lsub_0))))) ?_
        exact ok_X12_layPairs_102 ih v1 v2 v3 σ2 _ h
      · rw [if_neg c1] at h
        obtain ⟨hg, h⟩ := grd_some h
        refine aw_seq [(.aload_n 0, 1, ax0), (.getfield 53, 3, (axF 12 28 (2, 11, 13, some 256))), (.iload_n 1, 1, ax0), (.aload_n 0, 1, ax0), (.getfield 53, 3, (axF 12 28 (2, 11, 13, some 256))), (.iload_n 1, 1, ax0), (.iaload, 1, ax0), (.aload_n 0, 1, ax0), (.getfield 50, 3, (axF 12 27 (2, 10, 13, some 64))), (.bipush 8, 2, (axI 8)), (.iload_n 2, 1, ax0), (.imul, 1, ax0), (.iload_n 3, 1, ax0), (.iadd, 1, ax0), (.iaload, 1, ax0), (.aload_n 0, 1, ax0), (.getfield 53, 3, (axF 12 28 (2, 11, 13, some 256))), (.iload_n 1, 1, ax0), (.iconst 1, 1, (axI 1)), (.iload_n 2, 1, ax0), (.ishl, 1, ax0), (.iconst (-1), 1, (axI (-1))), (.ixor, 1, ax0), (.iand, 1, ax0), (.iconst 1, 1, (axI 1)), (.iload_n 3, 1, ax0), (.ishl, 1, ax0), (.iconst (-1), 1, (axI (-1))), (.ixor, 1, ax0), (.iand, 1, ax0), (.iaload, 1, ax0), (.iadd, 1, ax0)] (pc' := 98) (L' := [some (aR 12 0 0), some (aI v1), some (aI v2), some (aI v3)]) (stk' := [aI ((σ2.1 10 (ix ((8 * v2) + v3))) + (σ2.1 11 (ix ((v1 &&& ((shl 1 v2) ^^^ (-1))) &&& ((shl 1 v3) ^^^ (-1)))))), aI (σ2.1 11 (ix v1)), aI v1, aR 13 256 11]) (σ' := σ2) (g := [inb v1 256, inb ((8 * v2) + v3) 64, inb ((v1 &&& ((shl 1 v2) ^^^ (-1))) &&& ((shl 1 v3) ^^^ (-1))) 256]) (by decide +kernel) rfl hg ?_
        obtain ⟨r6, σ5, h4, h⟩ := bnd_some h
        refine aw_cS (P' := pX12_least) (idx := 437) (d' := 1) [aI (σ2.1 11 (ix v1)), aI ((σ2.1 10 (ix ((8 * v2) + v3))) + (σ2.1 11 (ix ((v1 &&& ((shl 1 v2) ^^^ (-1))) &&& ((shl 1 v3) ^^^ (-1))))))] [aI v1, aR 13 256 11] (ov := (some (aI r6))) (stk2 := [aI r6, aI v1, aR 13 256 11]) okp_X12_least (by decide +kernel) ml_RX12_437 tok_X12_least nar_X12_least (by decide) rfl (Nat.le_of_ble_eq_true rfl) (ok_X12_least h4) rfl ?_
        obtain ⟨hg, h⟩ := grd_some h
        obtain ⟨σ7, e8, h⟩ := ltσ_some h
        refine aw_seq [(.iastore, 1, ax0)] (pc' := 102) (L' := [some (aR 12 0 0), some (aI v1), some (aI v2), some (aI v3)]) (stk' := []) (σ' := σ7) (g := [inb v1 256]) (by decide +kernel) (by rw [e8]; rfl) hg ?_
        refine aw_forget (L' := [some (aR 12 0 0), some (aI v1), some (aI v2), some (aI v3)]) (lsub_s (lsub_s (lsub_s (lsub_s (lsub_0))))) ?_
        exact ok_X12_layPairs_102 ih v1 v2 v3 σ7 _ h
def f_X12_layPairs_13   : Nat → Int32 → Sg → Option Sg
  | 0, _, _ => none
  | fu + 1, v1, σ =>
    bnd (f_X12_all σ) fun r11 σ10 =>
    if r11 < v1 then (
      some σ10
    ) else (
      grd (inb v1 256 && true) <|
      ltσ (wI σ10 11 (ix v1) 1000000) fun σ12 =>
      bnd (f_X12_lowOf v1 σ12) fun r16 σ15 =>
      f_X12_layPairs_39 (f_X12_layPairs_13 fu) FU v1 r16 (r16 + 1) σ15
    )
set_option maxRecDepth 100000 in
set_option maxHeartbeats 4000000 in
theorem ok_X12_layPairs_13 {κ : Kd}    : ∀ (fu : Nat) (v1 : Int32) (σ : Sg) (q : Sg), f_X12_layPairs_13 fu v1 σ = some q → AW κ pX12_layPairs 3 (none, q) 13 [some (aR 12 0 0), some (aI v1), none, none] [] σ := by
  intro fu
  induction fu with
  | zero =>
    intro v1 σ q h
    unfold f_X12_layPairs_13 at h
    cases h
  | succ fu ih =>
    intro v1 σ q h
    unfold f_X12_layPairs_13 at h
    refine aw_seq [(.iload_n 1, 1, ax0), (.aload_n 0, 1, ax0)] (pc' := 15) (L' := [some (aR 12 0 0), some (aI v1), none, none]) (stk' := [aR 12 0 0, aI v1]) (σ' := σ) (g := []) (by decide +kernel) rfl rfl ?_
    obtain ⟨r11, σ10, h9, h⟩ := bnd_some h
    refine aw_cV (P' := pX12_all) (idx := 418) (d' := 1) (c := 12) (n := 0) (k := 0) [] [aI v1] (ov := (some (aI r11))) (stk2 := [aI r11, aI v1]) okp_X12_all (by decide +kernel) ml_RX12_418 vok_X12_all (by decide) rfl nar_X12_all (by decide) rfl (Nat.le_of_ble_eq_true rfl) (ok_X12_all h9) rfl ?_
    refine aw_icmp_gt (off := 96) (tgt := 114) (by decide +kernel) (by decide) (fun c1 => ?_) (fun c1 => ?_)
    · rw [if_pos c1] at h
      cases h
      exact aw_vret rfl (by decide +kernel)
    · rw [if_neg c1] at h
      obtain ⟨hg, h⟩ := grd_some h
      obtain ⟨σ12, e13, h⟩ := ltσ_some h
      refine aw_seq [(.aload_n 0, 1, ax0), (.getfield 53, 3, (axF 12 28 (2, 11, 13, some 256))), (.iload_n 1, 1, ax0), (.ldc_w 430, 3, (axI 1000000)), (.iastore, 1, ax0)] (pc' := 30) (L' := [some (aR 12 0 0), some (aI v1), none, none]) (stk' := []) (σ' := σ12) (g := [inb v1 256]) (by decide +kernel) (by rw [e13]; rfl) hg ?_
      refine aw_seq [(.iload_n 1, 1, ax0)] (pc' := 31) (L' := [some (aR 12 0 0), some (aI v1), none, none]) (stk' := [aI v1]) (σ' := σ12) (g := []) (by decide +kernel) rfl rfl ?_
      obtain ⟨r16, σ15, h14, h⟩ := bnd_some h
      refine aw_cS (P' := pX12_lowOf) (idx := 434) (d' := 2) [aI v1] [] (ov := (some (aI r16))) (stk2 := [aI r16]) okp_X12_lowOf (by decide +kernel) ml_RX12_434 tok_X12_lowOf nar_X12_lowOf (by decide) rfl (Nat.le_of_ble_eq_true rfl) (ok_X12_lowOf h14) rfl ?_
      refine aw_seq [(.istore_n 2, 1, ax0), (.iload_n 2, 1, ax0), (.iconst 1, 1, (axI 1)), (.iadd, 1, ax0), (.istore_n 3, 1, ax0)] (pc' := 39) (L' := [some (aR 12 0 0), some (aI v1), some (aI r16), some (aI (r16 + 1))]) (stk' := []) (σ' := σ15) (g := []) (by decide +kernel) rfl rfl ?_
      refine aw_forget (L' := [some (aR 12 0 0), some (aI v1), some (aI r16), some (aI (r16 + 1))]) (lsub_s (lsub_s (lsub_s (lsub_s (lsub_0))))) ?_
      exact ok_X12_layPairs_39 ih FU v1 r16 (r16 + 1) σ15 _ h
def f_X12_layPairs  (σ : Sg) : Option Sg :=
  bndV (f_X12_layFars σ) fun σ18 =>
  grd (inb 0 256 && true) <|
  ltσ (wI σ18 11 (ix 0) 0) fun σ19 =>
  f_X12_layPairs_13 FU 1 σ19
set_option maxRecDepth 100000 in
set_option maxHeartbeats 4000000 in
theorem ok_X12_layPairs {κ : Kd}  {σ : Sg} {q : Sg} (h : f_X12_layPairs σ = some q) : AMet κ pX12_layPairs 3 [aR 12 0 0] σ (none, q) := by
  unfold f_X12_layPairs at h
  refine amet_of okp_X12_layPairs [(false, aR 12 0 0)] (List.forall_mem_cons.mpr ⟨rfl, (fun _ hn => absurd hn List.not_mem_nil)⟩) 3 rfl ?_
  show AW κ pX12_layPairs 3 (none, q) 0 [some (aR 12 0 0), none, none, none] [] σ
  refine aw_seq [(.aload_n 0, 1, ax0)] (pc' := 1) (L' := [some (aR 12 0 0), none, none, none]) (stk' := [aR 12 0 0]) (σ' := σ) (g := []) (by decide +kernel) rfl rfl ?_
  obtain ⟨σ18, h17, h⟩ := bndV_some h
  refine aw_cV (P' := pX12_layFars) (idx := 431) (d' := 2) (c := 12) (n := 0) (k := 0) [] [] (ov := none) (stk2 := []) okp_X12_layFars (by decide +kernel) ml_RX12_431 vok_X12_layFars (by decide) rfl nar_X12_layFars (by decide) rfl (Nat.le_of_ble_eq_true rfl) (ok_X12_layFars h17) rfl ?_
  obtain ⟨hg, h⟩ := grd_some h
  obtain ⟨σ19, e20, h⟩ := ltσ_some h
  refine aw_seq [(.aload_n 0, 1, ax0), (.getfield 53, 3, (axF 12 28 (2, 11, 13, some 256))), (.iconst 0, 1, (axI 0)), (.iconst 0, 1, (axI 0)), (.iastore, 1, ax0)] (pc' := 11) (L' := [some (aR 12 0 0), none, none, none]) (stk' := []) (σ' := σ19) (g := [inb 0 256]) (by decide +kernel) (by rw [e20]; rfl) hg ?_
  refine aw_seq [(.iconst 1, 1, (axI 1)), (.istore_n 1, 1, ax0)] (pc' := 13) (L' := [some (aR 12 0 0), some (aI 1), none, none]) (stk' := []) (σ' := σ19) (g := []) (by decide +kernel) rfl rfl ?_
  refine aw_forget (L' := [some (aR 12 0 0), some (aI 1), none, none]) (lsub_s (lsub_s (lsub_n (lsub_n (lsub_0))))) ?_
  exact ok_X12_layPairs_13 FU 1 σ19 _ h
def f_X12_round_21    (σ : Sg) : Option (Int32 × Sg) :=
  some ((-1), σ)
set_option maxRecDepth 100000 in
set_option maxHeartbeats 4000000 in
theorem ok_X12_round_21 {κ : Kd}    : ∀  (σ : Sg) (q : (Int32 × Sg)), f_X12_round_21  σ = some q → AW κ pX12_round 5 (some (aI q.1), q.2) 21 [none, none, none, none, none] [] σ := by
  intro  σ q h
  unfold f_X12_round_21 at h
  refine aw_seq [(.iconst (-1), 1, (axI (-1)))] (pc' := 22) (L' := [none, none, none, none, none]) (stk' := [aI (-1)]) (σ' := σ) (g := []) (by decide +kernel) rfl rfl ?_
  cases h
  exact aw_iret rfl (by decide +kernel)
def f_X12_round_52  (rec_39 : Int32 → Int32 → Sg → Option (Int32 × Sg)) : Nat → Int32 → Int32 → Int32 → Sg → Option (Int32 × Sg)
  | 0, _, _, _, _ => none
  | fu + 1, v2, v3, v4, σ =>
    if v3 ≤ v4 then (
      rec_39 v2 (v3 + 1) σ
    ) else (
      bnd (f_X12_lengthOf v3 v4 σ) fun r3 σ2 =>
      (f_X12_round_52 rec_39 fu) (v2 + r3) v3 (v4 + 1) σ2
    )
set_option maxRecDepth 100000 in
set_option maxHeartbeats 4000000 in
theorem ok_X12_round_52 {κ : Kd}   {rec_39 : Int32 → Int32 → Sg → Option (Int32 × Sg)} (hrec_39 : ∀ (v2 : Int32) (v3 : Int32) (σ : Sg) (q : (Int32 × Sg)), rec_39 v2 v3 σ = some q → AW κ pX12_round 5 (some (aI q.1), q.2) 39 [some (aR 12 0 0), none, some (aI v2), some (aI v3), none] [] σ) : ∀ (fu : Nat) (v2 : Int32) (v3 : Int32) (v4 : Int32) (σ : Sg) (q : (Int32 × Sg)), f_X12_round_52 rec_39 fu v2 v3 v4 σ = some q → AW κ pX12_round 5 (some (aI q.1), q.2) 52 [some (aR 12 0 0), none, some (aI v2), some (aI v3), some (aI v4)] [] σ := by
  intro fu
  induction fu with
  | zero =>
    intro v2 v3 v4 σ q h
    unfold f_X12_round_52 at h
    cases h
  | succ fu ih =>
    intro v2 v3 v4 σ q h
    unfold f_X12_round_52 at h
    refine aw_seq [(.iload 4, 2, ax0), (.iload_n 3, 1, ax0)] (pc' := 55) (L' := [some (aR 12 0 0), none, some (aI v2), some (aI v3), some (aI v4)]) (stk' := [aI v3, aI v4]) (σ' := σ) (g := []) (by decide +kernel) rfl rfl ?_
    refine aw_icmp_ge (off := 19) (tgt := 74) (by decide +kernel) (by decide) (fun c1 => ?_) (fun c1 => ?_)
    · rw [if_pos c1] at h
      refine aw_seq [(.iinc 3 1, 3, (axI 1))] (pc' := 77) (L' := [some (aR 12 0 0), none, some (aI v2), some (aI (v3 + 1)), some (aI v4)]) (stk' := []) (σ' := σ) (g := []) (by decide +kernel) rfl rfl ?_
      refine aw_goto (off := (-38)) (tgt := 39) (by decide +kernel) (by decide) ?_
      refine aw_forget (L' := [some (aR 12 0 0), none, some (aI v2), some (aI (v3 + 1)), none]) (lsub_s (lsub_n (lsub_s (lsub_s (lsub_n (lsub_0)))))) ?_
      exact hrec_39 v2 (v3 + 1) σ _ h
    · rw [if_neg c1] at h
      refine aw_seq [(.iload_n 2, 1, ax0), (.aload_n 0, 1, ax0), (.iload_n 3, 1, ax0), (.iload 4, 2, ax0)] (pc' := 63) (L' := [some (aR 12 0 0), none, some (aI v2), some (aI v3), some (aI v4)]) (stk' := [aI v4, aI v3, aR 12 0 0, aI v2]) (σ' := σ) (g := []) (by decide +kernel) rfl rfl ?_
      obtain ⟨r3, σ2, h1, h⟩ := bnd_some h
      refine aw_cV (P' := pX12_lengthOf) (idx := 73) (d' := 1) (c := 12) (n := 0) (k := 0) [aI v3, aI v4] [aI v2] (ov := (some (aI r3))) (stk2 := [aI r3, aI v2]) okp_X12_lengthOf (by decide +kernel) ml_RX12_73 vok_X12_lengthOf (by decide) rfl nar_X12_lengthOf (by decide) rfl (Nat.le_of_ble_eq_true rfl) (ok_X12_lengthOf h1) rfl ?_
      refine aw_seq [(.iadd, 1, ax0), (.istore_n 2, 1, ax0), (.iinc 4 1, 3, (axI 1))] (pc' := 71) (L' := [some (aR 12 0 0), none, some (aI (v2 + r3)), some (aI v3), some (aI (v4 + 1))]) (stk' := []) (σ' := σ2) (g := []) (by decide +kernel) rfl rfl ?_
      refine aw_goto (off := (-19)) (tgt := 52) (by decide +kernel) (by decide) ?_
      refine aw_forget (L' := [some (aR 12 0 0), none, some (aI (v2 + r3)), some (aI v3), some (aI (v4 + 1))]) (lsub_s (lsub_n (lsub_s (lsub_s (lsub_s (lsub_0)))))) ?_
      exact ih (v2 + r3) v3 (v4 + 1) σ2 _ h
def f_X12_round_39   : Nat → Int32 → Int32 → Sg → Option (Int32 × Sg)
  | 0, _, _, _ => none
  | fu + 1, v2, v3, σ =>
    grd (inb 0 1986 && true) <|
    if (σ.1 1 (ix 0)) ≤ v3 then (
      some (v2, σ)
    ) else (
      f_X12_round_52 (f_X12_round_39 fu) FU v2 v3 0 σ
    )
set_option maxRecDepth 100000 in
set_option maxHeartbeats 4000000 in
theorem ok_X12_round_39 {κ : Kd}    : ∀ (fu : Nat) (v2 : Int32) (v3 : Int32) (σ : Sg) (q : (Int32 × Sg)), f_X12_round_39 fu v2 v3 σ = some q → AW κ pX12_round 5 (some (aI q.1), q.2) 39 [some (aR 12 0 0), none, some (aI v2), some (aI v3), none] [] σ := by
  intro fu
  induction fu with
  | zero =>
    intro v2 v3 σ q h
    unfold f_X12_round_39 at h
    cases h
  | succ fu ih =>
    intro v2 v3 σ q h
    unfold f_X12_round_39 at h
    obtain ⟨hg, h⟩ := grd_some h
    refine aw_seq [(.iload_n 3, 1, ax0), (.aload_n 0, 1, ax0), (.getfield 7, 3, (axF 12 0 (2, 1, 13, some 1986))), (.iconst 0, 1, (axI 0)), (.iaload, 1, ax0)] (pc' := 46) (L' := [some (aR 12 0 0), none, some (aI v2), some (aI v3), none]) (stk' := [aI (σ.1 1 (ix 0)), aI v3]) (σ' := σ) (g := [inb 0 1986]) (by decide +kernel) rfl hg ?_
    refine aw_icmp_ge (off := 34) (tgt := 80) (by decide +kernel) (by decide) (fun c1 => ?_) (fun c1 => ?_)
    · rw [if_pos c1] at h
      refine aw_seq [(.iload_n 2, 1, ax0)] (pc' := 81) (L' := [some (aR 12 0 0), none, some (aI v2), some (aI v3), none]) (stk' := [aI v2]) (σ' := σ) (g := []) (by decide +kernel) rfl rfl ?_
      cases h
      exact aw_iret rfl (by decide +kernel)
    · rw [if_neg c1] at h
      refine aw_seq [(.iconst 0, 1, (axI 0)), (.istore 4, 2, ax0)] (pc' := 52) (L' := [some (aR 12 0 0), none, some (aI v2), some (aI v3), some (aI 0)]) (stk' := []) (σ' := σ) (g := []) (by decide +kernel) rfl rfl ?_
      refine aw_forget (L' := [some (aR 12 0 0), none, some (aI v2), some (aI v3), some (aI 0)]) (lsub_s (lsub_n (lsub_s (lsub_s (lsub_s (lsub_0)))))) ?_
      exact ok_X12_round_52 ih FU v2 v3 0 σ _ h
def f_X12_round (v1 : Int32) (σ : Sg) : Option (Int32 × Sg) :=
  if v1 = 1 then (
    bnd (f_X12_odd σ) fun r14 σ13 =>
    some (r14, σ13)
  ) else (
    if v1 = 0 then (
      bnd (f_X12_isJoined σ) fun r6 σ5 =>
      if r6 = 0 then (
        f_X12_round_21 σ5
      ) else (
        bndV (f_X12_layPairs σ5) fun σ8 =>
        bnd (f_X12_odd σ8) fun r11 σ10 =>
        grd (inb r11 256 && true) <|
        f_X12_round_39 FU (σ10.1 11 (ix r11)) 0 σ10
      )
    ) else (
      f_X12_round_21 σ
    )
  )
set_option maxRecDepth 100000 in
set_option maxHeartbeats 4000000 in
theorem ok_X12_round {κ : Kd} {v1 : Int32} {σ : Sg} {q : (Int32 × Sg)} (h : f_X12_round v1 σ = some q) : AMet κ pX12_round 5 [aR 12 0 0, aI v1] σ (some (aI q.1), q.2) := by
  unfold f_X12_round at h
  refine amet_of okp_X12_round [(false, aR 12 0 0), (false, aI v1)] (List.forall_mem_cons.mpr ⟨rfl, List.forall_mem_cons.mpr ⟨rfl, (fun _ hn => absurd hn List.not_mem_nil)⟩⟩) 3 rfl ?_
  show AW κ pX12_round 5 (some (aI q.1), q.2) 0 [some (aR 12 0 0), some (aI v1), none, none, none] [] σ
  refine aw_seq [(.iload_n 1, 1, ax0), (.iconst 1, 1, (axI 1))] (pc' := 2) (L' := [some (aR 12 0 0), some (aI v1), none, none, none]) (stk' := [aI 1, aI v1]) (σ' := σ) (g := []) (by decide +kernel) rfl rfl ?_
  refine aw_icmp_ne (off := 8) (tgt := 10) (by decide +kernel) (by decide) (fun c1 => ?_) (fun c1 => ?_)
  · rw [if_neg c1] at h
    refine aw_seq [(.iload_n 1, 1, ax0)] (pc' := 11) (L' := [some (aR 12 0 0), some (aI v1), none, none, none]) (stk' := [aI v1]) (σ' := σ) (g := []) (by decide +kernel) rfl rfl ?_
    refine aw_if_ne (off := 10) (tgt := 21) (by decide +kernel) (by decide) (fun c1 => ?_) (fun c1 => ?_)
    · rw [if_neg c1] at h
      refine aw_forget (L' := [none, none, none, none, none]) (lsub_n (lsub_n (lsub_n (lsub_n (lsub_n (lsub_0)))))) ?_
      exact ok_X12_round_21 σ _ h
    · rw [if_pos c1] at h
      refine aw_seq [(.aload_n 0, 1, ax0)] (pc' := 15) (L' := [some (aR 12 0 0), some (aI v1), none, none, none]) (stk' := [aR 12 0 0]) (σ' := σ) (g := []) (by decide +kernel) rfl rfl ?_
      obtain ⟨r6, σ5, h4, h⟩ := bnd_some h
      refine aw_cV (P' := pX12_isJoined) (idx := 443) (d' := 4) (c := 12) (n := 0) (k := 0) [] [] (ov := (some (aI r6))) (stk2 := [aI r6]) okp_X12_isJoined (by decide +kernel) ml_RX12_443 vok_X12_isJoined (by decide) rfl nar_X12_isJoined (by decide) rfl (Nat.le_of_ble_eq_true rfl) (ok_X12_isJoined h4) rfl ?_
      refine aw_if_ne (off := 5) (tgt := 23) (by decide +kernel) (by decide) (fun c1 => ?_) (fun c1 => ?_)
      · rw [if_neg c1] at h
        refine aw_seq [(.aload_n 0, 1, ax0)] (pc' := 24) (L' := [some (aR 12 0 0), some (aI v1), none, none, none]) (stk' := [aR 12 0 0]) (σ' := σ5) (g := []) (by decide +kernel) rfl rfl ?_
        obtain ⟨σ8, h7, h⟩ := bndV_some h
        refine aw_cV (P' := pX12_layPairs) (idx := 446) (d' := 3) (c := 12) (n := 0) (k := 0) [] [] (ov := none) (stk2 := []) okp_X12_layPairs (by decide +kernel) ml_RX12_446 vok_X12_layPairs (by decide) rfl nar_X12_layPairs (by decide) rfl (Nat.le_of_ble_eq_true rfl) (ok_X12_layPairs h7) rfl ?_
        refine aw_seq [(.aload_n 0, 1, ax0), (.getfield 53, 3, (axF 12 28 (2, 11, 13, some 256))), (.aload_n 0, 1, ax0)] (pc' := 32) (L' := [some (aR 12 0 0), some (aI v1), none, none, none]) (stk' := [aR 12 0 0, aR 13 256 11]) (σ' := σ8) (g := []) (by decide +kernel) rfl rfl ?_
        obtain ⟨r11, σ10, h9, h⟩ := bnd_some h
        refine aw_cV (P' := pX12_odd) (idx := 440) (d' := 3) (c := 12) (n := 0) (k := 0) [] [aR 13 256 11] (ov := (some (aI r11))) (stk2 := [aI r11, aR 13 256 11]) okp_X12_odd (by decide +kernel) ml_RX12_440 vok_X12_odd (by decide) rfl nar_X12_odd (by decide) rfl (Nat.le_of_ble_eq_true rfl) (ok_X12_odd h9) rfl ?_
        obtain ⟨hg, h⟩ := grd_some h
        refine aw_seq [(.iaload, 1, ax0), (.istore_n 2, 1, ax0), (.iconst 0, 1, (axI 0)), (.istore_n 3, 1, ax0)] (pc' := 39) (L' := [some (aR 12 0 0), some (aI v1), some (aI (σ10.1 11 (ix r11))), some (aI 0), none]) (stk' := []) (σ' := σ10) (g := [inb r11 256]) (by decide +kernel) rfl hg ?_
        refine aw_forget (L' := [some (aR 12 0 0), none, some (aI (σ10.1 11 (ix r11))), some (aI 0), none]) (lsub_s (lsub_n (lsub_s (lsub_s (lsub_n (lsub_0)))))) ?_
        exact ok_X12_round_39 FU (σ10.1 11 (ix r11)) 0 σ10 _ h
      · rw [if_pos c1] at h
        refine aw_forget (L' := [none, none, none, none, none]) (lsub_n (lsub_n (lsub_n (lsub_n (lsub_n (lsub_0)))))) ?_
        exact ok_X12_round_21 σ5 _ h
  · rw [if_pos c1] at h
    refine aw_seq [(.aload_n 0, 1, ax0)] (pc' := 6) (L' := [some (aR 12 0 0), some (aI v1), none, none, none]) (stk' := [aR 12 0 0]) (σ' := σ) (g := []) (by decide +kernel) rfl rfl ?_
    obtain ⟨r14, σ13, h12, h⟩ := bnd_some h
    refine aw_cV (P' := pX12_odd) (idx := 440) (d' := 3) (c := 12) (n := 0) (k := 0) [] [] (ov := (some (aI r14))) (stk2 := [aI r14]) okp_X12_odd (by decide +kernel) ml_RX12_440 vok_X12_odd (by decide) rfl nar_X12_odd (by decide) rfl (Nat.le_of_ble_eq_true rfl) (ok_X12_odd h12) rfl ?_
    cases h
    exact aw_iret rfl (by decide +kernel)
