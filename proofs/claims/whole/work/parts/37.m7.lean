/-! printed by wip/whole/gen4.py from the class file: layHops, isBegun, hoursOf, began, answers, whom, bid, ahead, leave, cooled, whose, image, back, about -/
def f_X12_layHops_46  (rec_18 : Int32 → Int32 → Int32 → Sg → Option Sg) (v1 : Int32) (v2 : Int32) (v3 : Int32) (s1 : Int32) (s2 : Int32) (σ : Sg) : Option Sg :=
  grd (inb s1 64 && true) <|
  ltσ (wI σ 13 (ix s1) s2) fun σ1 =>
  rec_18 v1 v2 (v3 + 1) σ1
set_option maxRecDepth 100000 in
set_option maxHeartbeats 4000000 in
theorem ok_X12_layHops_46 {κ : Kd}   {rec_18 : Int32 → Int32 → Int32 → Sg → Option Sg} (hrec_18 : ∀ (v1 : Int32) (v2 : Int32) (v3 : Int32) (σ : Sg) (q : Sg), rec_18 v1 v2 v3 σ = some q → AW κ pX12_layHops 3 (none, q) 18 [some (aR 12 0 0), some (aI v1), some (aI v2), some (aI v3), none, none] [] σ) : ∀ (v1 : Int32) (v2 : Int32) (v3 : Int32) (s1 : Int32) (s2 : Int32) (σ : Sg) (q : Sg), f_X12_layHops_46 rec_18 v1 v2 v3 s1 s2 σ = some q → AW κ pX12_layHops 3 (none, q) 46 [some (aR 12 0 0), some (aI v1), some (aI v2), some (aI v3), none, none] [aI s2, aI s1, aR 13 64 13] σ := by
  intro v1 v2 v3 s1 s2 σ q h
  unfold f_X12_layHops_46 at h
  obtain ⟨hg, h⟩ := grd_some h
  obtain ⟨σ1, e2, h⟩ := ltσ_some h
  refine aw_seq [(.iastore, 1, ax0)] (pc' := 47) (L' := [some (aR 12 0 0), some (aI v1), some (aI v2), some (aI v3), none, none]) (stk' := []) (σ' := σ1) (g := [inb s1 64]) (by decide +kernel) (by rw [e2]; rfl) hg ?_
  refine aw_seq [(.iinc 3 1, 3, (axI 1))] (pc' := 50) (L' := [some (aR 12 0 0), some (aI v1), some (aI v2), some (aI (v3 + 1)), none, none]) (stk' := []) (σ' := σ1) (g := []) (by decide +kernel) rfl rfl ?_
  refine aw_goto (off := (-32)) (tgt := 18) (by decide +kernel) (by decide) ?_
  refine aw_forget (L' := [some (aR 12 0 0), some (aI v1), some (aI v2), some (aI (v3 + 1)), none, none]) (lsub_s (lsub_s (lsub_s (lsub_s (lsub_n (lsub_n (lsub_0))))))) ?_
  exact hrec_18 v1 v2 (v3 + 1) σ1 _ h
def f_X12_layHops_98  (rec_67 : Int32 → Int32 → Int32 → Int32 → Int32 → Sg → Option Sg) (v1 : Int32) (v2 : Int32) (v3 : Int32) (v4 : Int32) (v5 : Int32) (σ : Sg) : Option Sg :=
  rec_67 v1 v2 v3 v4 (v5 + 1) σ
set_option maxRecDepth 100000 in
set_option maxHeartbeats 4000000 in
theorem ok_X12_layHops_98 {κ : Kd}   {rec_67 : Int32 → Int32 → Int32 → Int32 → Int32 → Sg → Option Sg} (hrec_67 : ∀ (v1 : Int32) (v2 : Int32) (v3 : Int32) (v4 : Int32) (v5 : Int32) (σ : Sg) (q : Sg), rec_67 v1 v2 v3 v4 v5 σ = some q → AW κ pX12_layHops 3 (none, q) 67 [some (aR 12 0 0), some (aI v1), some (aI v2), some (aI v3), some (aI v4), some (aI v5)] [] σ) : ∀ (v1 : Int32) (v2 : Int32) (v3 : Int32) (v4 : Int32) (v5 : Int32) (σ : Sg) (q : Sg), f_X12_layHops_98 rec_67 v1 v2 v3 v4 v5 σ = some q → AW κ pX12_layHops 3 (none, q) 98 [some (aR 12 0 0), some (aI v1), some (aI v2), some (aI v3), some (aI v4), some (aI v5)] [] σ := by
  intro v1 v2 v3 v4 v5 σ q h
  unfold f_X12_layHops_98 at h
  refine aw_seq [(.iinc 5 1, 3, (axI 1))] (pc' := 101) (L' := [some (aR 12 0 0), some (aI v1), some (aI v2), some (aI v3), some (aI v4), some (aI (v5 + 1))]) (stk' := []) (σ' := σ) (g := []) (by decide +kernel) rfl rfl ?_
  refine aw_goto (off := (-34)) (tgt := 67) (by decide +kernel) (by decide) ?_
  refine aw_forget (L' := [some (aR 12 0 0), some (aI v1), some (aI v2), some (aI v3), some (aI v4), some (aI (v5 + 1))]) (lsub_s (lsub_s (lsub_s (lsub_s (lsub_s (lsub_s (lsub_0))))))) ?_
  exact hrec_67 v1 v2 v3 v4 (v5 + 1) σ _ h
def f_X12_layHops_145  (rec_107 : Int32 → Int32 → Int32 → Int32 → Int32 → Sg → Option Sg) (v1 : Int32) (v2 : Int32) (v3 : Int32) (v4 : Int32) (v5 : Int32) (σ : Sg) : Option Sg :=
  rec_107 v1 v2 v3 v4 (v5 + 1) σ
set_option maxRecDepth 100000 in
set_option maxHeartbeats 4000000 in
theorem ok_X12_layHops_145 {κ : Kd}   {rec_107 : Int32 → Int32 → Int32 → Int32 → Int32 → Sg → Option Sg} (hrec_107 : ∀ (v1 : Int32) (v2 : Int32) (v3 : Int32) (v4 : Int32) (v5 : Int32) (σ : Sg) (q : Sg), rec_107 v1 v2 v3 v4 v5 σ = some q → AW κ pX12_layHops 3 (none, q) 107 [some (aR 12 0 0), some (aI v1), some (aI v2), some (aI v3), some (aI v4), some (aI v5)] [] σ) : ∀ (v1 : Int32) (v2 : Int32) (v3 : Int32) (v4 : Int32) (v5 : Int32) (σ : Sg) (q : Sg), f_X12_layHops_145 rec_107 v1 v2 v3 v4 v5 σ = some q → AW κ pX12_layHops 3 (none, q) 145 [some (aR 12 0 0), some (aI v1), some (aI v2), some (aI v3), some (aI v4), some (aI v5)] [] σ := by
  intro v1 v2 v3 v4 v5 σ q h
  unfold f_X12_layHops_145 at h
  refine aw_seq [(.iinc 5 1, 3, (axI 1))] (pc' := 148) (L' := [some (aR 12 0 0), some (aI v1), some (aI v2), some (aI v3), some (aI v4), some (aI (v5 + 1))]) (stk' := []) (σ' := σ) (g := []) (by decide +kernel) rfl rfl ?_
  refine aw_goto (off := (-41)) (tgt := 107) (by decide +kernel) (by decide) ?_
  refine aw_forget (L' := [some (aR 12 0 0), some (aI v1), some (aI v2), some (aI v3), some (aI v4), some (aI (v5 + 1))]) (lsub_s (lsub_s (lsub_s (lsub_s (lsub_s (lsub_s (lsub_0))))))) ?_
  exact hrec_107 v1 v2 v3 v4 (v5 + 1) σ _ h
def f_X12_layHops_107  (rec_55 : Int32 → Int32 → Int32 → Sg → Option Sg) : Nat → Int32 → Int32 → Int32 → Int32 → Int32 → Sg → Option Sg
  | 0, _, _, _, _, _, _ => none
  | fu + 1, v1, v2, v3, v4, v5, σ =>
    grd (inb 0 1986 && true) <|
    if (σ.1 1 (ix 0)) ≤ v5 then (
      rec_55 v1 v4 (v3 + 1) σ
    ) else (
      bnd (f_X12_has (v4 &&& (v2 ^^^ (-1))) v5 σ) fun r5 σ4 =>
      if r5 = 0 then (
        f_X12_layHops_145 (f_X12_layHops_107 rec_55 fu) v1 v2 v3 v4 v5 σ4
      ) else (
        grd (inb ((8 * v1) + v5) 64 && true) <|
        ltσ (wI σ4 13 (ix ((8 * v1) + v5)) v3) fun σ6 =>
        f_X12_layHops_145 (f_X12_layHops_107 rec_55 fu) v1 v2 v3 v4 v5 σ6
      )
    )
set_option maxRecDepth 100000 in
set_option maxHeartbeats 4000000 in
theorem ok_X12_layHops_107 {κ : Kd}   {rec_55 : Int32 → Int32 → Int32 → Sg → Option Sg} (hrec_55 : ∀ (v1 : Int32) (v2 : Int32) (v3 : Int32) (σ : Sg) (q : Sg), rec_55 v1 v2 v3 σ = some q → AW κ pX12_layHops 3 (none, q) 55 [some (aR 12 0 0), some (aI v1), some (aI v2), some (aI v3), none, none] [] σ) : ∀ (fu : Nat) (v1 : Int32) (v2 : Int32) (v3 : Int32) (v4 : Int32) (v5 : Int32) (σ : Sg) (q : Sg), f_X12_layHops_107 rec_55 fu v1 v2 v3 v4 v5 σ = some q → AW κ pX12_layHops 3 (none, q) 107 [some (aR 12 0 0), some (aI v1), some (aI v2), some (aI v3), some (aI v4), some (aI v5)] [] σ := by
  intro fu
  induction fu with
  | zero =>
    intro v1 v2 v3 v4 v5 σ q h
    unfold f_X12_layHops_107 at h
    cases h
  | succ fu ih =>
    intro v1 v2 v3 v4 v5 σ q h
    unfold f_X12_layHops_107 at h
    obtain ⟨hg, h⟩ := grd_some h
    refine aw_seq [(.iload 5, 2, ax0), (.aload_n 0, 1, ax0), (.getfield 7, 3, (axF 12 0 (2, 1, 13, some 1986))), (.iconst 0, 1, (axI 0)), (.iaload, 1, ax0)] (pc' := 115) (L' := [some (aR 12 0 0), some (aI v1), some (aI v2), some (aI v3), some (aI v4), some (aI v5)]) (stk' := [aI (σ.1 1 (ix 0)), aI v5]) (σ' := σ) (g := [inb 0 1986]) (by decide +kernel) rfl hg ?_
    refine aw_icmp_ge (off := 36) (tgt := 151) (by decide +kernel) (by decide) (fun c1 => ?_) (fun c1 => ?_)
    · rw [if_pos c1] at h
      refine aw_seq [(.iload 4, 2, ax0), (.istore_n 2, 1, ax0), (.iinc 3 1, 3, (axI 1))] (pc' := 157) (L' := [some (aR 12 0 0), some (aI v1), some (aI v4), some (aI (v3 + 1)), some (aI v4), some (aI v5)]) (stk' := []) (σ' := σ) (g := []) (by decide +kernel) rfl rfl ?_
      refine aw_goto (off := (-102)) (tgt := 55) (by decide +kernel) (by decide) ?_
      refine aw_forget (L' := [some (aR 12 0 0), some (aI v1), some (aI v4), some (aI (v3 + 1)), none, none]) (lsub_s (lsub_s (lsub_s (lsub_s (lsub_n (lsub_n (lsub_0))))))) ?_
      exact hrec_55 v1 v4 (v3 + 1) σ _ h
    · rw [if_neg c1] at h
      refine aw_seq [(.iload 4, 2, ax0), (.iload_n 2, 1, ax0), (.iconst (-1), 1, (axI (-1))), (.ixor, 1, ax0), (.iand, 1, ax0), (.iload 5, 2, ax0)] (pc' := 126) (L' := [some (aR 12 0 0), some (aI v1), some (aI v2), some (aI v3), some (aI v4), some (aI v5)]) (stk' := [aI v5, aI (v4 &&& (v2 ^^^ (-1)))]) (σ' := σ) (g := []) (by decide +kernel) rfl rfl ?_
      obtain ⟨r5, σ4, h3, h⟩ := bnd_some h
      refine aw_cS (P' := pX12_has) (idx := 250) (d' := 1) [aI (v4 &&& (v2 ^^^ (-1))), aI v5] [] (ov := (some (aI r5))) (stk2 := [aI r5]) okp_X12_has (by decide +kernel) ml_RX12_250 tok_X12_has nar_X12_has (by decide) rfl (Nat.le_of_ble_eq_true rfl) (ok_X12_has h3) rfl ?_
      refine aw_if_eq (off := 16) (tgt := 145) (by decide +kernel) (by decide) (fun c1 => ?_) (fun c1 => ?_)
      · rw [if_pos c1] at h
        refine aw_forget (L' := [some (aR 12 0 0), some (aI v1), some (aI v2), some (aI v3), some (aI v4), some (aI v5)]) (lsub_s (lsub_s (lsub_s (lsub_s (lsub_s (lsub_s (lsub_0))))))) ?_
        exact ok_X12_layHops_145 ih v1 v2 v3 v4 v5 σ4 _ h
      · rw [if_neg c1] at h
        obtain ⟨hg, h⟩ := grd_some h
        obtain ⟨σ6, e7, h⟩ := ltσ_some h
        refine aw_seq [(.aload_n 0, 1, ax0), (.getfield 59, 3, (axF 12 30 (2, 13, 13, some 64))), (.bipush 8, 2, (axI 8)), (.iload_n 1, 1, ax0), (.imul, 1, ax0), (.iload 5, 2, ax0), (.iadd, 1, ax0), (.iload_n 3, 1, ax0), (.iastore, 1, ax0)] (pc' := 145) (L' := [some (aR 12 0 0), some (aI v1), some (aI v2), some (aI v3), some (aI v4), some (aI v5)]) (stk' := []) (σ' := σ6) (g := [inb ((8 * v1) + v5) 64]) (by decide +kernel) (by rw [e7]; rfl) hg ?_
        refine aw_forget (L' := [some (aR 12 0 0), some (aI v1), some (aI v2), some (aI v3), some (aI v4), some (aI v5)]) (lsub_s (lsub_s (lsub_s (lsub_s (lsub_s (lsub_s (lsub_0))))))) ?_
        exact ok_X12_layHops_145 ih v1 v2 v3 v4 v5 σ6 _ h
def f_X12_layHops_67  (rec_55 : Int32 → Int32 → Int32 → Sg → Option Sg) : Nat → Int32 → Int32 → Int32 → Int32 → Int32 → Sg → Option Sg
  | 0, _, _, _, _, _, _ => none
  | fu + 1, v1, v2, v3, v4, v5, σ =>
    grd (inb 0 1986 && true) <|
    if (σ.1 1 (ix 0)) ≤ v5 then (
      f_X12_layHops_107 rec_55 FU v1 v2 v3 v4 0 σ
    ) else (
      bnd (f_X12_has v2 v5 σ) fun r10 σ9 =>
      if r10 = 0 then (
        f_X12_layHops_98 (f_X12_layHops_67 rec_55 fu) v1 v2 v3 v4 v5 σ9
      ) else (
        bnd (f_X12_beside v5 σ9) fun r13 σ12 =>
        f_X12_layHops_98 (f_X12_layHops_67 rec_55 fu) v1 v2 v3 (v4 ||| r13) v5 σ12
      )
    )
set_option maxRecDepth 100000 in
set_option maxHeartbeats 4000000 in
theorem ok_X12_layHops_67 {κ : Kd}   {rec_55 : Int32 → Int32 → Int32 → Sg → Option Sg} (hrec_55 : ∀ (v1 : Int32) (v2 : Int32) (v3 : Int32) (σ : Sg) (q : Sg), rec_55 v1 v2 v3 σ = some q → AW κ pX12_layHops 3 (none, q) 55 [some (aR 12 0 0), some (aI v1), some (aI v2), some (aI v3), none, none] [] σ) : ∀ (fu : Nat) (v1 : Int32) (v2 : Int32) (v3 : Int32) (v4 : Int32) (v5 : Int32) (σ : Sg) (q : Sg), f_X12_layHops_67 rec_55 fu v1 v2 v3 v4 v5 σ = some q → AW κ pX12_layHops 3 (none, q) 67 [some (aR 12 0 0), some (aI v1), some (aI v2), some (aI v3), some (aI v4), some (aI v5)] [] σ := by
  intro fu
  induction fu with
  | zero =>
    intro v1 v2 v3 v4 v5 σ q h
    unfold f_X12_layHops_67 at h
    cases h
  | succ fu ih =>
    intro v1 v2 v3 v4 v5 σ q h
    unfold f_X12_layHops_67 at h
    obtain ⟨hg, h⟩ := grd_some h
    refine aw_seq [(.iload 5, 2, ax0), (.aload_n 0, 1, ax0), (.getfield 7, 3, (axF 12 0 (2, 1, 13, some 1986))), (.iconst 0, 1, (axI 0)), (.iaload, 1, ax0)] (pc' := 75) (L' := [some (aR 12 0 0), some (aI v1), some (aI v2), some (aI v3), some (aI v4), some (aI v5)]) (stk' := [aI (σ.1 1 (ix 0)), aI v5]) (σ' := σ) (g := [inb 0 1986]) (by decide +kernel) rfl hg ?_
    refine aw_icmp_ge (off := 29) (tgt := 104) (by decide +kernel) (by decide) (fun c1 => ?_) (fun c1 => ?_)
    · rw [if_pos c1] at h
      refine aw_seq [(.iconst 0, 1, (axI 0)), (.istore 5, 2, ax0)] (pc' := 107) (L' := [some (aR 12 0 0), some (aI v1), some (aI v2), some (aI v3), some (aI v4), some (aI 0)]) (stk' := []) (σ' := σ) (g := []) (by decide +kernel) rfl rfl ?_
      refine aw_forget (L' := [some (aR 12 0 0), some (aI v1), some (aI v2), some (aI v3), some (aI v4), some (aI 0)]) (lsub_s (lsub_s (lsub_s (lsub_s (lsub_s (lsub_s (lsub_0))))))) ?_
      exact ok_X12_layHops_107 hrec_55 FU v1 v2 v3 v4 0 σ _ h
    · rw [if_neg c1] at h
      refine aw_seq [(.iload_n 2, 1, ax0), (.iload 5, 2, ax0)] (pc' := 81) (L' := [some (aR 12 0 0), some (aI v1), some (aI v2), some (aI v3), some (aI v4), some (aI v5)]) (stk' := [aI v5, aI v2]) (σ' := σ) (g := []) (by decide +kernel) rfl rfl ?_
      obtain ⟨r10, σ9, h8, h⟩ := bnd_some h
      refine aw_cS (P' := pX12_has) (idx := 250) (d' := 1) [aI v2, aI v5] [] (ov := (some (aI r10))) (stk2 := [aI r10]) okp_X12_has (by decide +kernel) ml_RX12_250 tok_X12_has nar_X12_has (by decide) rfl (Nat.le_of_ble_eq_true rfl) (ok_X12_has h8) rfl ?_
      refine aw_if_eq (off := 14) (tgt := 98) (by decide +kernel) (by decide) (fun c1 => ?_) (fun c1 => ?_)
      · rw [if_pos c1] at h
        refine aw_forget (L' := [some (aR 12 0 0), some (aI v1), some (aI v2), some (aI v3), some (aI v4), some (aI v5)]) (lsub_s (lsub_s (lsub_s (lsub_s (lsub_s (lsub_s (lsub_0))))))) ?_
        exact ok_X12_layHops_98 ih v1 v2 v3 v4 v5 σ9 _ h
      · rw [if_neg c1] at h
        refine aw_seq [(.iload 4, 2, ax0), (.aload_n 0, 1, ax0), (.iload 5, 2, ax0)] (pc' := 92) (L' := [some (aR 12 0 0), some (aI v1), some (aI v2), some (aI v3), some (aI v4), some (aI v5)]) (stk' := [aI v5, aR 12 0 0, aI v4]) (σ' := σ9) (g := []) (by decide +kernel) rfl rfl ?_
        obtain ⟨r13, σ12, h11, h⟩ := bnd_some h
        refine aw_cV (P' := pX12_beside) (idx := 294) (d' := 2) (c := 12) (n := 0) (k := 0) [aI v5] [aI v4] (ov := (some (aI r13))) (stk2 := [aI r13, aI v4]) okp_X12_beside (by decide +kernel) ml_RX12_294 vok_X12_beside (by decide) rfl nar_X12_beside (by decide) rfl (Nat.le_of_ble_eq_true rfl) (ok_X12_beside h11) rfl ?_
        refine aw_seq [(.ior, 1, ax0), (.istore 4, 2, ax0)] (pc' := 98) (L' := [some (aR 12 0 0), some (aI v1), some (aI v2), some (aI v3), some (aI (v4 ||| r13)), some (aI v5)]) (stk' := []) (σ' := σ12) (g := []) (by decide +kernel) rfl rfl ?_
        refine aw_forget (L' := [some (aR 12 0 0), some (aI v1), some (aI v2), some (aI v3), some (aI (v4 ||| r13)), some (aI v5)]) (lsub_s (lsub_s (lsub_s (lsub_s (lsub_s (lsub_s (lsub_0))))))) ?_
        exact ok_X12_layHops_98 ih v1 v2 v3 (v4 ||| r13) v5 σ12 _ h
def f_X12_layHops_55  (rec_2 : Int32 → Sg → Option Sg) : Nat → Int32 → Int32 → Int32 → Sg → Option Sg
  | 0, _, _, _, _ => none
  | fu + 1, v1, v2, v3, σ =>
    if 8 ≤ v3 then (
      rec_2 (v1 + 1) σ
    ) else (
      f_X12_layHops_67 (f_X12_layHops_55 rec_2 fu) FU v1 v2 v3 v2 0 σ
    )
set_option maxRecDepth 100000 in
set_option maxHeartbeats 4000000 in
theorem ok_X12_layHops_55 {κ : Kd}   {rec_2 : Int32 → Sg → Option Sg} (hrec_2 : ∀ (v1 : Int32) (σ : Sg) (q : Sg), rec_2 v1 σ = some q → AW κ pX12_layHops 3 (none, q) 2 [some (aR 12 0 0), some (aI v1), none, none, none, none] [] σ) : ∀ (fu : Nat) (v1 : Int32) (v2 : Int32) (v3 : Int32) (σ : Sg) (q : Sg), f_X12_layHops_55 rec_2 fu v1 v2 v3 σ = some q → AW κ pX12_layHops 3 (none, q) 55 [some (aR 12 0 0), some (aI v1), some (aI v2), some (aI v3), none, none] [] σ := by
  intro fu
  induction fu with
  | zero =>
    intro v1 v2 v3 σ q h
    unfold f_X12_layHops_55 at h
    cases h
  | succ fu ih =>
    intro v1 v2 v3 σ q h
    unfold f_X12_layHops_55 at h
    refine aw_seq [(.iload_n 3, 1, ax0), (.bipush 8, 2, (axI 8))] (pc' := 58) (L' := [some (aR 12 0 0), some (aI v1), some (aI v2), some (aI v3), none, none]) (stk' := [aI 8, aI v3]) (σ' := σ) (g := []) (by decide +kernel) rfl rfl ?_
    refine aw_icmp_ge (off := 102) (tgt := 160) (by decide +kernel) (by decide) (fun c1 => ?_) (fun c1 => ?_)
    · rw [if_pos c1] at h
      refine aw_seq [(.iinc 1 1, 3, (axI 1))] (pc' := 163) (L' := [some (aR 12 0 0), some (aI (v1 + 1)), some (aI v2), some (aI v3), none, none]) (stk' := []) (σ' := σ) (g := []) (by decide +kernel) rfl rfl ?_
      refine aw_goto (off := (-161)) (tgt := 2) (by decide +kernel) (by decide) ?_
      refine aw_forget (L' := [some (aR 12 0 0), some (aI (v1 + 1)), none, none, none, none]) (lsub_s (lsub_s (lsub_n (lsub_n (lsub_n (lsub_n (lsub_0))))))) ?_
      exact hrec_2 (v1 + 1) σ _ h
    · rw [if_neg c1] at h
      refine aw_seq [(.iload_n 2, 1, ax0), (.istore 4, 2, ax0), (.iconst 0, 1, (axI 0)), (.istore 5, 2, ax0)] (pc' := 67) (L' := [some (aR 12 0 0), some (aI v1), some (aI v2), some (aI v3), some (aI v2), some (aI 0)]) (stk' := []) (σ' := σ) (g := []) (by decide +kernel) rfl rfl ?_
      refine aw_forget (L' := [some (aR 12 0 0), some (aI v1), some (aI v2), some (aI v3), some (aI v2), some (aI 0)]) (lsub_s (lsub_s (lsub_s (lsub_s (lsub_s (lsub_s (lsub_0))))))) ?_
      exact ok_X12_layHops_67 ih FU v1 v2 v3 v2 0 σ _ h
def f_X12_layHops_18  (rec_2 : Int32 → Sg → Option Sg) : Nat → Int32 → Int32 → Int32 → Sg → Option Sg
  | 0, _, _, _, _ => none
  | fu + 1, v1, v2, v3, σ =>
    if 8 ≤ v3 then (
      f_X12_layHops_55 rec_2 FU v1 v2 1 σ
    ) else (
      if v3 = v1 then (
        f_X12_layHops_46 (f_X12_layHops_18 rec_2 fu) v1 v2 v3 ((8 * v1) + v3) 0 σ
      ) else (
        f_X12_layHops_46 (f_X12_layHops_18 rec_2 fu) v1 v2 v3 ((8 * v1) + v3) 1000000 σ
      )
    )
set_option maxRecDepth 100000 in
set_option maxHeartbeats 4000000 in
theorem ok_X12_layHops_18 {κ : Kd}   {rec_2 : Int32 → Sg → Option Sg} (hrec_2 : ∀ (v1 : Int32) (σ : Sg) (q : Sg), rec_2 v1 σ = some q → AW κ pX12_layHops 3 (none, q) 2 [some (aR 12 0 0), some (aI v1), none, none, none, none] [] σ) : ∀ (fu : Nat) (v1 : Int32) (v2 : Int32) (v3 : Int32) (σ : Sg) (q : Sg), f_X12_layHops_18 rec_2 fu v1 v2 v3 σ = some q → AW κ pX12_layHops 3 (none, q) 18 [some (aR 12 0 0), some (aI v1), some (aI v2), some (aI v3), none, none] [] σ := by
  intro fu
  induction fu with
  | zero =>
    intro v1 v2 v3 σ q h
    unfold f_X12_layHops_18 at h
    cases h
  | succ fu ih =>
    intro v1 v2 v3 σ q h
    unfold f_X12_layHops_18 at h
    refine aw_seq [(.iload_n 3, 1, ax0), (.bipush 8, 2, (axI 8))] (pc' := 21) (L' := [some (aR 12 0 0), some (aI v1), some (aI v2), some (aI v3), none, none]) (stk' := [aI 8, aI v3]) (σ' := σ) (g := []) (by decide +kernel) rfl rfl ?_
    refine aw_icmp_ge (off := 32) (tgt := 53) (by decide +kernel) (by decide) (fun c1 => ?_) (fun c1 => ?_)
    · rw [if_pos c1] at h
      refine aw_seq [(.iconst 1, 1, (axI 1)), (.istore_n 3, 1, ax0)] (pc' := 55) (L' := [some (aR 12 0 0), some (aI v1), some (aI v2), some (aI 1), none, none]) (stk' := []) (σ' := σ) (g := []) (by decide +kernel) rfl rfl ?_
      refine aw_forget (L' := [some (aR 12 0 0), some (aI v1), some (aI v2), some (aI 1), none, none]) (lsub_s (lsub_s (lsub_s (lsub_s (lsub_n (lsub_n (lsub_0))))))) ?_
      exact ok_X12_layHops_55 hrec_2 FU v1 v2 1 σ _ h
    · rw [if_neg c1] at h
      refine aw_seq [(.aload_n 0, 1, ax0), (.getfield 59, 3, (axF 12 30 (2, 13, 13, some 64))), (.bipush 8, 2, (axI 8)), (.iload_n 1, 1, ax0), (.imul, 1, ax0), (.iload_n 3, 1, ax0), (.iadd, 1, ax0), (.iload_n 3, 1, ax0), (.iload_n 1, 1, ax0)] (pc' := 36) (L' := [some (aR 12 0 0), some (aI v1), some (aI v2), some (aI v3), none, none]) (stk' := [aI v1, aI v3, aI ((8 * v1) + v3), aR 13 64 13]) (σ' := σ) (g := []) (by decide +kernel) rfl rfl ?_
      refine aw_icmp_ne (off := 7) (tgt := 43) (by decide +kernel) (by decide) (fun c1 => ?_) (fun c1 => ?_)
      · rw [if_neg c1] at h
        refine aw_seq [(.ldc_w 430, 3, (axI 1000000))] (pc' := 46) (L' := [some (aR 12 0 0), some (aI v1), some (aI v2), some (aI v3), none, none]) (stk' := [aI 1000000, aI ((8 * v1) + v3), aR 13 64 13]) (σ' := σ) (g := []) (by decide +kernel) rfl rfl ?_
        refine aw_forget (L' := [some (aR 12 0 0), some (aI v1), some (aI v2), some (aI v3), none, none]) (lsub_s (lsub_s (lsub_s (lsub_s (lsub_n (lsub_n (lsub_0))))))) ?_
        exact ok_X12_layHops_46 ih v1 v2 v3 ((8 * v1) + v3) 1000000 σ _ h
      · rw [if_pos c1] at h
        refine aw_seq [(.iconst 0, 1, (axI 0))] (pc' := 40) (L' := [some (aR 12 0 0), some (aI v1), some (aI v2), some (aI v3), none, none]) (stk' := [aI 0, aI ((8 * v1) + v3), aR 13 64 13]) (σ' := σ) (g := []) (by decide +kernel) rfl rfl ?_
        refine aw_goto (off := 6) (tgt := 46) (by decide +kernel) (by decide) ?_
        refine aw_forget (L' := [some (aR 12 0 0), some (aI v1), some (aI v2), some (aI v3), none, none]) (lsub_s (lsub_s (lsub_s (lsub_s (lsub_n (lsub_n (lsub_0))))))) ?_
        exact ok_X12_layHops_46 ih v1 v2 v3 ((8 * v1) + v3) 0 σ _ h
def f_X12_layHops_2   : Nat → Int32 → Sg → Option Sg
  | 0, _, _ => none
  | fu + 1, v1, σ =>
    grd (inb 0 1986 && true) <|
    if (σ.1 1 (ix 0)) ≤ v1 then (
      some σ
    ) else (
      f_X12_layHops_18 (f_X12_layHops_2 fu) FU v1 (shl 1 v1) 0 σ
    )
set_option maxRecDepth 100000 in
set_option maxHeartbeats 4000000 in
theorem ok_X12_layHops_2 {κ : Kd}    : ∀ (fu : Nat) (v1 : Int32) (σ : Sg) (q : Sg), f_X12_layHops_2 fu v1 σ = some q → AW κ pX12_layHops 3 (none, q) 2 [some (aR 12 0 0), some (aI v1), none, none, none, none] [] σ := by
  intro fu
  induction fu with
  | zero =>
    intro v1 σ q h
    unfold f_X12_layHops_2 at h
    cases h
  | succ fu ih =>
    intro v1 σ q h
    unfold f_X12_layHops_2 at h
    obtain ⟨hg, h⟩ := grd_some h
    refine aw_seq [(.iload_n 1, 1, ax0), (.aload_n 0, 1, ax0), (.getfield 7, 3, (axF 12 0 (2, 1, 13, some 1986))), (.iconst 0, 1, (axI 0)), (.iaload, 1, ax0)] (pc' := 9) (L' := [some (aR 12 0 0), some (aI v1), none, none, none, none]) (stk' := [aI (σ.1 1 (ix 0)), aI v1]) (σ' := σ) (g := [inb 0 1986]) (by decide +kernel) rfl hg ?_
    refine aw_icmp_ge (off := 157) (tgt := 166) (by decide +kernel) (by decide) (fun c1 => ?_) (fun c1 => ?_)
    · rw [if_pos c1] at h
      cases h
      exact aw_vret rfl (by decide +kernel)
    · rw [if_neg c1] at h
      refine aw_seq [(.iconst 1, 1, (axI 1)), (.iload_n 1, 1, ax0), (.ishl, 1, ax0), (.istore_n 2, 1, ax0), (.iconst 0, 1, (axI 0)), (.istore_n 3, 1, ax0)] (pc' := 18) (L' := [some (aR 12 0 0), some (aI v1), some (aI (shl 1 v1)), some (aI 0), none, none]) (stk' := []) (σ' := σ) (g := []) (by decide +kernel) rfl rfl ?_
      refine aw_forget (L' := [some (aR 12 0 0), some (aI v1), some (aI (shl 1 v1)), some (aI 0), none, none]) (lsub_s (lsub_s (lsub_s (lsub_s (lsub_n (lsub_n (lsub_0))))))) ?_
      exact ok_X12_layHops_18 ih FU v1 (shl 1 v1) 0 σ _ h
def f_X12_layHops  (σ : Sg) : Option Sg :=
  f_X12_layHops_2 FU 0 σ
set_option maxRecDepth 100000 in
set_option maxHeartbeats 4000000 in
theorem ok_X12_layHops {κ : Kd}  {σ : Sg} {q : Sg} (h : f_X12_layHops σ = some q) : AMet κ pX12_layHops 3 [aR 12 0 0] σ (none, q) := by
  unfold f_X12_layHops at h
  refine amet_of okp_X12_layHops [(false, aR 12 0 0)] (List.forall_mem_cons.mpr ⟨rfl, (fun _ hn => absurd hn List.not_mem_nil)⟩) 5 rfl ?_
  show AW κ pX12_layHops 3 (none, q) 0 [some (aR 12 0 0), none, none, none, none, none] [] σ
  refine aw_seq [(.iconst 0, 1, (axI 0)), (.istore_n 1, 1, ax0)] (pc' := 2) (L' := [some (aR 12 0 0), some (aI 0), none, none, none, none]) (stk' := []) (σ' := σ) (g := []) (by decide +kernel) rfl rfl ?_
  refine aw_forget (L' := [some (aR 12 0 0), some (aI 0), none, none, none, none]) (lsub_s (lsub_s (lsub_n (lsub_n (lsub_n (lsub_n (lsub_0))))))) ?_
  exact ok_X12_layHops_2 FU 0 σ _ h
def f_X12_isBegun_81    (σ : Sg) : Option (Int32 × Sg) :=
  some (0, σ)
set_option maxRecDepth 100000 in
set_option maxHeartbeats 4000000 in
theorem ok_X12_isBegun_81 {κ : Kd}    : ∀  (σ : Sg) (q : (Int32 × Sg)), f_X12_isBegun_81  σ = some q → AW κ pX12_isBegun 1 (some (aI q.1), q.2) 81 [none, none, none, none, none] [] σ := by
  intro  σ q h
  unfold f_X12_isBegun_81 at h
  refine aw_seq [(.iconst 0, 1, (axI 0))] (pc' := 82) (L' := [none, none, none, none, none]) (stk' := [aI 0]) (σ' := σ) (g := []) (by decide +kernel) rfl rfl ?_
  cases h
  exact aw_zret rfl bz_0 (by decide +kernel)
def f_X12_isBegun_83  (rec_4 : Int32 → Int32 → Int32 → Sg → Option (Int32 × Sg)) (v1 : Int32) (v2 : Int32) (v3 : Int32) (σ : Sg) : Option (Int32 × Sg) :=
  rec_4 v1 v2 (v3 + 3) σ
set_option maxRecDepth 100000 in
set_option maxHeartbeats 4000000 in
theorem ok_X12_isBegun_83 {κ : Kd}   {rec_4 : Int32 → Int32 → Int32 → Sg → Option (Int32 × Sg)} (hrec_4 : ∀ (v1 : Int32) (v2 : Int32) (v3 : Int32) (σ : Sg) (q : (Int32 × Sg)), rec_4 v1 v2 v3 σ = some q → AW κ pX12_isBegun 1 (some (aI q.1), q.2) 4 [some (aR 12 0 0), some (aI v1), some (aI v2), some (aI v3), none] [] σ) : ∀ (v1 : Int32) (v2 : Int32) (v3 : Int32) (σ : Sg) (q : (Int32 × Sg)), f_X12_isBegun_83 rec_4 v1 v2 v3 σ = some q → AW κ pX12_isBegun 1 (some (aI q.1), q.2) 83 [some (aR 12 0 0), some (aI v1), some (aI v2), some (aI v3), none] [] σ := by
  intro v1 v2 v3 σ q h
  unfold f_X12_isBegun_83 at h
  refine aw_seq [(.iinc 3 3, 3, (axI 3))] (pc' := 86) (L' := [some (aR 12 0 0), some (aI v1), some (aI v2), some (aI (v3 + 3)), none]) (stk' := []) (σ' := σ) (g := []) (by decide +kernel) rfl rfl ?_
  refine aw_goto (off := (-82)) (tgt := 4) (by decide +kernel) (by decide) ?_
  refine aw_forget (L' := [some (aR 12 0 0), some (aI v1), some (aI v2), some (aI (v3 + 3)), none]) (lsub_s (lsub_s (lsub_s (lsub_s (lsub_n (lsub_0)))))) ?_
  exact hrec_4 v1 v2 (v3 + 3) σ _ h
def f_X12_isBegun_4   : Nat → Int32 → Int32 → Int32 → Sg → Option (Int32 × Sg)
  | 0, _, _, _, _ => none
  | fu + 1, v1, v2, v3, σ =>
    grd (inb 4 1986 && true) <|
    if (138 + (3 * (σ.1 1 (ix 4)))) ≤ v3 then (
      some (1, σ)
    ) else (
      grd (inb v3 1986 && (inb ((8 * v1) + (σ.1 1 (ix v3))) 64 && (inb (v3 + 2) 1986 && true))) <|
      if (σ.1 1 (ix (v3 + 2))) = 1 then (
        grd (inb (v3 + 1) 1986 && true) <|
        if (v2 + (σ.1 13 (ix ((8 * v1) + (σ.1 1 (ix v3)))))) = (σ.1 1 (ix (v3 + 1))) then (
          f_X12_isBegun_83 (f_X12_isBegun_4 fu) v1 v2 v3 σ
        ) else (
          f_X12_isBegun_81 σ
        )
      ) else (
        grd (inb (v3 + 1) 1986 && true) <|
        if (σ.1 1 (ix (v3 + 1))) < (v2 + (σ.1 13 (ix ((8 * v1) + (σ.1 1 (ix v3)))))) then (
          f_X12_isBegun_83 (f_X12_isBegun_4 fu) v1 v2 v3 σ
        ) else (
          f_X12_isBegun_81 σ
        )
      )
    )
set_option maxRecDepth 100000 in
set_option maxHeartbeats 4000000 in
theorem ok_X12_isBegun_4 {κ : Kd}    : ∀ (fu : Nat) (v1 : Int32) (v2 : Int32) (v3 : Int32) (σ : Sg) (q : (Int32 × Sg)), f_X12_isBegun_4 fu v1 v2 v3 σ = some q → AW κ pX12_isBegun 1 (some (aI q.1), q.2) 4 [some (aR 12 0 0), some (aI v1), some (aI v2), some (aI v3), none] [] σ := by
  intro fu
  induction fu with
  | zero =>
    intro v1 v2 v3 σ q h
    unfold f_X12_isBegun_4 at h
    cases h
  | succ fu ih =>
    intro v1 v2 v3 σ q h
    unfold f_X12_isBegun_4 at h
    obtain ⟨hg, h⟩ := grd_some h
    refine aw_seq [(.iload_n 3, 1, ax0), (.sipush 138, 3, (axI 138)), (.iconst 3, 1, (axI 3)), (.aload_n 0, 1, ax0), (.getfield 7, 3, (axF 12 0 (2, 1, 13, some 1986))), (.iconst 4, 1, (axI 4)), (.iaload, 1, ax0), (.imul, 1, ax0), (.iadd, 1, ax0)] (pc' := 17) (L' := [some (aR 12 0 0), some (aI v1), some (aI v2), some (aI v3), none]) (stk' := [aI (138 + (3 * (σ.1 1 (ix 4)))), aI v3]) (σ' := σ) (g := [inb 4 1986]) (by decide +kernel) rfl hg ?_
    refine aw_icmp_ge (off := 72) (tgt := 89) (by decide +kernel) (by decide) (fun c1 => ?_) (fun c1 => ?_)
    · rw [if_pos c1] at h
      refine aw_seq [(.iconst 1, 1, (axI 1))] (pc' := 90) (L' := [some (aR 12 0 0), some (aI v1), some (aI v2), some (aI v3), none]) (stk' := [aI 1]) (σ' := σ) (g := []) (by decide +kernel) rfl rfl ?_
      cases h
      exact aw_zret rfl bz_1 (by decide +kernel)
    · rw [if_neg c1] at h
      obtain ⟨hg, h⟩ := grd_some h
      refine aw_seq [(.iload_n 2, 1, ax0), (.aload_n 0, 1, ax0), (.getfield 59, 3, (axF 12 30 (2, 13, 13, some 64))), (.bipush 8, 2, (axI 8)), (.iload_n 1, 1, ax0), (.imul, 1, ax0), (.aload_n 0, 1, ax0), (.getfield 7, 3, (axF 12 0 (2, 1, 13, some 1986))), (.iload_n 3, 1, ax0), (.iaload, 1, ax0), (.iadd, 1, ax0), (.iaload, 1, ax0), (.iadd, 1, ax0), (.istore 4, 2, ax0), (.aload_n 0, 1, ax0), (.getfield 7, 3, (axF 12 0 (2, 1, 13, some 1986))), (.iload_n 3, 1, ax0), (.iconst 2, 1, (axI 2)), (.iadd, 1, ax0), (.iaload, 1, ax0), (.iconst 1, 1, (axI 1))] (pc' := 49) (L' := [some (aR 12 0 0), some (aI v1), some (aI v2), some (aI v3), some (aI (v2 + (σ.1 13 (ix ((8 * v1) + (σ.1 1 (ix v3)))))))]) (stk' := [aI 1, aI (σ.1 1 (ix (v3 + 2)))]) (σ' := σ) (g := [inb v3 1986, inb ((8 * v1) + (σ.1 1 (ix v3))) 64, inb (v3 + 2) 1986]) (by decide +kernel) rfl hg ?_
      refine aw_icmp_ne (off := 19) (tgt := 68) (by decide +kernel) (by decide) (fun c1 => ?_) (fun c1 => ?_)
      · rw [if_neg c1] at h
        obtain ⟨hg, h⟩ := grd_some h
        refine aw_seq [(.iload 4, 2, ax0), (.aload_n 0, 1, ax0), (.getfield 7, 3, (axF 12 0 (2, 1, 13, some 1986))), (.iload_n 3, 1, ax0), (.iconst 1, 1, (axI 1)), (.iadd, 1, ax0), (.iaload, 1, ax0)] (pc' := 78) (L' := [some (aR 12 0 0), some (aI v1), some (aI v2), some (aI v3), some (aI (v2 + (σ.1 13 (ix ((8 * v1) + (σ.1 1 (ix v3)))))))]) (stk' := [aI (σ.1 1 (ix (v3 + 1))), aI (v2 + (σ.1 13 (ix ((8 * v1) + (σ.1 1 (ix v3))))))]) (σ' := σ) (g := [inb (v3 + 1) 1986]) (by decide +kernel) rfl hg ?_
        refine aw_icmp_gt (off := 5) (tgt := 83) (by decide +kernel) (by decide) (fun c1 => ?_) (fun c1 => ?_)
        · rw [if_pos c1] at h
          refine aw_forget (L' := [some (aR 12 0 0), some (aI v1), some (aI v2), some (aI v3), none]) (lsub_s (lsub_s (lsub_s (lsub_s (lsub_n (lsub_0)))))) ?_
          exact ok_X12_isBegun_83 ih v1 v2 v3 σ _ h
        · rw [if_neg c1] at h
          refine aw_forget (L' := [none, none, none, none, none]) (lsub_n (lsub_n (lsub_n (lsub_n (lsub_n (lsub_0)))))) ?_
          exact ok_X12_isBegun_81 σ _ h
      · rw [if_pos c1] at h
        obtain ⟨hg, h⟩ := grd_some h
        refine aw_seq [(.iload 4, 2, ax0), (.aload_n 0, 1, ax0), (.getfield 7, 3, (axF 12 0 (2, 1, 13, some 1986))), (.iload_n 3, 1, ax0), (.iconst 1, 1, (axI 1)), (.iadd, 1, ax0), (.iaload, 1, ax0)] (pc' := 62) (L' := [some (aR 12 0 0), some (aI v1), some (aI v2), some (aI v3), some (aI (v2 + (σ.1 13 (ix ((8 * v1) + (σ.1 1 (ix v3)))))))]) (stk' := [aI (σ.1 1 (ix (v3 + 1))), aI (v2 + (σ.1 13 (ix ((8 * v1) + (σ.1 1 (ix v3))))))]) (σ' := σ) (g := [inb (v3 + 1) 1986]) (by decide +kernel) rfl hg ?_
        refine aw_icmp_eq (off := 21) (tgt := 83) (by decide +kernel) (by decide) (fun c1 => ?_) (fun c1 => ?_)
        · rw [if_pos c1] at h
          refine aw_forget (L' := [some (aR 12 0 0), some (aI v1), some (aI v2), some (aI v3), none]) (lsub_s (lsub_s (lsub_s (lsub_s (lsub_n (lsub_0)))))) ?_
          exact ok_X12_isBegun_83 ih v1 v2 v3 σ _ h
        · rw [if_neg c1] at h
          refine aw_goto (off := 16) (tgt := 81) (by decide +kernel) (by decide) ?_
          refine aw_forget (L' := [none, none, none, none, none]) (lsub_n (lsub_n (lsub_n (lsub_n (lsub_n (lsub_0)))))) ?_
          exact ok_X12_isBegun_81 σ _ h
def f_X12_isBegun (v1 : Int32) (v2 : Int32) (σ : Sg) : Option (Int32 × Sg) :=
  f_X12_isBegun_4 FU v1 v2 138 σ
set_option maxRecDepth 100000 in
set_option maxHeartbeats 4000000 in
theorem ok_X12_isBegun {κ : Kd} {v1 : Int32} {v2 : Int32} {σ : Sg} {q : (Int32 × Sg)} (h : f_X12_isBegun v1 v2 σ = some q) : AMet κ pX12_isBegun 1 [aR 12 0 0, aI v1, aI v2] σ (some (aI q.1), q.2) := by
  unfold f_X12_isBegun at h
  refine amet_of okp_X12_isBegun [(false, aR 12 0 0), (false, aI v1), (false, aI v2)] (List.forall_mem_cons.mpr ⟨rfl, List.forall_mem_cons.mpr ⟨rfl, List.forall_mem_cons.mpr ⟨rfl, (fun _ hn => absurd hn List.not_mem_nil)⟩⟩⟩) 2 rfl ?_
  show AW κ pX12_isBegun 1 (some (aI q.1), q.2) 0 [some (aR 12 0 0), some (aI v1), some (aI v2), none, none] [] σ
  refine aw_seq [(.sipush 138, 3, (axI 138)), (.istore_n 3, 1, ax0)] (pc' := 4) (L' := [some (aR 12 0 0), some (aI v1), some (aI v2), some (aI 138), none]) (stk' := []) (σ' := σ) (g := []) (by decide +kernel) rfl rfl ?_
  refine aw_forget (L' := [some (aR 12 0 0), some (aI v1), some (aI v2), some (aI 138), none]) (lsub_s (lsub_s (lsub_s (lsub_s (lsub_n (lsub_0)))))) ?_
  exact ok_X12_isBegun_4 FU v1 v2 138 σ _ h
def f_X12_hoursOf_25  (rec_4 : Int32 → Int32 → Int32 → Sg → Option (Int32 × Sg)) (v1 : Int32) (v3 : Int32) (s0 : Int32) (s1 : Int32) (σ : Sg) : Option (Int32 × Sg) :=
  rec_4 v1 (s0 + s1) (v3 + 1) σ
set_option maxRecDepth 100000 in
set_option maxHeartbeats 4000000 in
theorem ok_X12_hoursOf_25 {κ : Kd}   {rec_4 : Int32 → Int32 → Int32 → Sg → Option (Int32 × Sg)} (hrec_4 : ∀ (v1 : Int32) (v2 : Int32) (v3 : Int32) (σ : Sg) (q : (Int32 × Sg)), rec_4 v1 v2 v3 σ = some q → AW κ pX12_hoursOf 2 (some (aI q.1), q.2) 4 [some (aR 12 0 0), some (aI v1), some (aI v2), some (aI v3)] [] σ) : ∀ (v1 : Int32) (v3 : Int32) (s0 : Int32) (s1 : Int32) (σ : Sg) (q : (Int32 × Sg)), f_X12_hoursOf_25 rec_4 v1 v3 s0 s1 σ = some q → AW κ pX12_hoursOf 2 (some (aI q.1), q.2) 25 [some (aR 12 0 0), some (aI v1), none, some (aI v3)] [aI s1, aI s0] σ := by
  intro v1 v3 s0 s1 σ q h
  unfold f_X12_hoursOf_25 at h
  refine aw_seq [(.iadd, 1, ax0), (.istore_n 2, 1, ax0), (.iinc 3 1, 3, (axI 1))] (pc' := 30) (L' := [some (aR 12 0 0), some (aI v1), some (aI (s0 + s1)), some (aI (v3 + 1))]) (stk' := []) (σ' := σ) (g := []) (by decide +kernel) rfl rfl ?_
  refine aw_goto (off := (-26)) (tgt := 4) (by decide +kernel) (by decide) ?_
  refine aw_forget (L' := [some (aR 12 0 0), some (aI v1), some (aI (s0 + s1)), some (aI (v3 + 1))]) (lsub_s (lsub_s (lsub_s (lsub_s (lsub_0))))) ?_
  exact hrec_4 v1 (s0 + s1) (v3 + 1) σ _ h
def f_X12_hoursOf_4   : Nat → Int32 → Int32 → Int32 → Sg → Option (Int32 × Sg)
  | 0, _, _, _, _ => none
  | fu + 1, v1, v2, v3, σ =>
    if 100 ≤ v3 then (
      some (v2, σ)
    ) else (
      bnd (f_X12_isBegun v1 v3 σ) fun r3 σ2 =>
      if r3 = 0 then (
        f_X12_hoursOf_25 (f_X12_hoursOf_4 fu) v1 v3 v2 0 σ2
      ) else (
        f_X12_hoursOf_25 (f_X12_hoursOf_4 fu) v1 v3 v2 1 σ2
      )
    )
set_option maxRecDepth 100000 in
set_option maxHeartbeats 4000000 in
theorem ok_X12_hoursOf_4 {κ : Kd}    : ∀ (fu : Nat) (v1 : Int32) (v2 : Int32) (v3 : Int32) (σ : Sg) (q : (Int32 × Sg)), f_X12_hoursOf_4 fu v1 v2 v3 σ = some q → AW κ pX12_hoursOf 2 (some (aI q.1), q.2) 4 [some (aR 12 0 0), some (aI v1), some (aI v2), some (aI v3)] [] σ := by
  intro fu
  induction fu with
  | zero =>
    intro v1 v2 v3 σ q h
    unfold f_X12_hoursOf_4 at h
    cases h
  | succ fu ih =>
    intro v1 v2 v3 σ q h
    unfold f_X12_hoursOf_4 at h
    refine aw_seq [(.iload_n 3, 1, ax0), (.bipush 100, 2, (axI 100))] (pc' := 7) (L' := [some (aR 12 0 0), some (aI v1), some (aI v2), some (aI v3)]) (stk' := [aI 100, aI v3]) (σ' := σ) (g := []) (by decide +kernel) rfl rfl ?_
    refine aw_icmp_ge (off := 26) (tgt := 33) (by decide +kernel) (by decide) (fun c1 => ?_) (fun c1 => ?_)
    · rw [if_pos c1] at h
      refine aw_seq [(.iload_n 2, 1, ax0)] (pc' := 34) (L' := [some (aR 12 0 0), some (aI v1), some (aI v2), some (aI v3)]) (stk' := [aI v2]) (σ' := σ) (g := []) (by decide +kernel) rfl rfl ?_
      cases h
      exact aw_iret rfl (by decide +kernel)
    · rw [if_neg c1] at h
      refine aw_seq [(.iload_n 2, 1, ax0), (.aload_n 0, 1, ax0), (.iload_n 1, 1, ax0), (.iload_n 3, 1, ax0)] (pc' := 14) (L' := [some (aR 12 0 0), some (aI v1), some (aI v2), some (aI v3)]) (stk' := [aI v3, aI v1, aR 12 0 0, aI v2]) (σ' := σ) (g := []) (by decide +kernel) rfl rfl ?_
      obtain ⟨r3, σ2, h1, h⟩ := bnd_some h
      refine aw_cV (P' := pX12_isBegun) (idx := 458) (d' := 1) (c := 12) (n := 0) (k := 0) [aI v1, aI v3] [aI v2] (ov := (some (aI r3))) (stk2 := [aI r3, aI v2]) okp_X12_isBegun (by decide +kernel) ml_RX12_458 vok_X12_isBegun (by decide) rfl nar_X12_isBegun (by decide) rfl (Nat.le_of_ble_eq_true rfl) (ok_X12_isBegun h1) rfl ?_
      refine aw_if_eq (off := 7) (tgt := 24) (by decide +kernel) (by decide) (fun c1 => ?_) (fun c1 => ?_)
      · rw [if_pos c1] at h
        refine aw_seq [(.iconst 0, 1, (axI 0))] (pc' := 25) (L' := [some (aR 12 0 0), some (aI v1), some (aI v2), some (aI v3)]) (stk' := [aI 0, aI v2]) (σ' := σ2) (g := []) (by decide +kernel) rfl rfl ?_
        refine aw_forget (L' := [some (aR 12 0 0), some (aI v1), none, some (aI v3)]) (lsub_s (lsub_s (lsub_n (lsub_s (lsub_0))))) ?_
        exact ok_X12_hoursOf_25 ih v1 v3 v2 0 σ2 _ h
      · rw [if_neg c1] at h
        refine aw_seq [(.iconst 1, 1, (axI 1))] (pc' := 21) (L' := [some (aR 12 0 0), some (aI v1), some (aI v2), some (aI v3)]) (stk' := [aI 1, aI v2]) (σ' := σ2) (g := []) (by decide +kernel) rfl rfl ?_
        refine aw_goto (off := 4) (tgt := 25) (by decide +kernel) (by decide) ?_
        refine aw_forget (L' := [some (aR 12 0 0), some (aI v1), none, some (aI v3)]) (lsub_s (lsub_s (lsub_n (lsub_s (lsub_0))))) ?_
        exact ok_X12_hoursOf_25 ih v1 v3 v2 1 σ2 _ h
def f_X12_hoursOf (v1 : Int32) (σ : Sg) : Option (Int32 × Sg) :=
  f_X12_hoursOf_4 FU v1 0 0 σ
set_option maxRecDepth 100000 in
set_option maxHeartbeats 4000000 in
theorem ok_X12_hoursOf {κ : Kd} {v1 : Int32} {σ : Sg} {q : (Int32 × Sg)} (h : f_X12_hoursOf v1 σ = some q) : AMet κ pX12_hoursOf 2 [aR 12 0 0, aI v1] σ (some (aI q.1), q.2) := by
  unfold f_X12_hoursOf at h
  refine amet_of okp_X12_hoursOf [(false, aR 12 0 0), (false, aI v1)] (List.forall_mem_cons.mpr ⟨rfl, List.forall_mem_cons.mpr ⟨rfl, (fun _ hn => absurd hn List.not_mem_nil)⟩⟩) 2 rfl ?_
  show AW κ pX12_hoursOf 2 (some (aI q.1), q.2) 0 [some (aR 12 0 0), some (aI v1), none, none] [] σ
  refine aw_seq [(.iconst 0, 1, (axI 0)), (.istore_n 2, 1, ax0), (.iconst 0, 1, (axI 0)), (.istore_n 3, 1, ax0)] (pc' := 4) (L' := [some (aR 12 0 0), some (aI v1), some (aI 0), some (aI 0)]) (stk' := []) (σ' := σ) (g := []) (by decide +kernel) rfl rfl ?_
  refine aw_forget (L' := [some (aR 12 0 0), some (aI v1), some (aI 0), some (aI 0)]) (lsub_s (lsub_s (lsub_s (lsub_s (lsub_0))))) ?_
  exact ok_X12_hoursOf_4 FU v1 0 0 σ _ h
def f_X12_began_61  (rec_35 : Int32 → Int32 → Sg → Option (Int32 × Sg)) (v3 : Int32) (s0 : Int32) (s1 : Int32) (σ : Sg) : Option (Int32 × Sg) :=
  rec_35 (s0 ||| s1) (v3 + 1) σ
set_option maxRecDepth 100000 in
set_option maxHeartbeats 4000000 in
theorem ok_X12_began_61 {κ : Kd}   {rec_35 : Int32 → Int32 → Sg → Option (Int32 × Sg)} (hrec_35 : ∀ (v2 : Int32) (v3 : Int32) (σ : Sg) (q : (Int32 × Sg)), rec_35 v2 v3 σ = some q → AW κ pX12_began 4 (some (aI q.1), q.2) 35 [some (aR 12 0 0), none, some (aI v2), some (aI v3)] [] σ) : ∀ (v3 : Int32) (s0 : Int32) (s1 : Int32) (σ : Sg) (q : (Int32 × Sg)), f_X12_began_61 rec_35 v3 s0 s1 σ = some q → AW κ pX12_began 4 (some (aI q.1), q.2) 61 [some (aR 12 0 0), none, none, some (aI v3)] [aI s1, aI s0] σ := by
  intro v3 s0 s1 σ q h
  unfold f_X12_began_61 at h
  refine aw_seq [(.ior, 1, ax0), (.istore_n 2, 1, ax0), (.iinc 3 1, 3, (axI 1))] (pc' := 66) (L' := [some (aR 12 0 0), none, some (aI (s0 ||| s1)), some (aI (v3 + 1))]) (stk' := []) (σ' := σ) (g := []) (by decide +kernel) rfl rfl ?_
  refine aw_goto (off := (-31)) (tgt := 35) (by decide +kernel) (by decide) ?_
  refine aw_forget (L' := [some (aR 12 0 0), none, some (aI (s0 ||| s1)), some (aI (v3 + 1))]) (lsub_s (lsub_n (lsub_s (lsub_s (lsub_0))))) ?_
  exact hrec_35 (s0 ||| s1) (v3 + 1) σ _ h
def f_X12_began_35   : Nat → Int32 → Int32 → Sg → Option (Int32 × Sg)
  | 0, _, _, _ => none
  | fu + 1, v2, v3, σ =>
    grd (inb 0 1986 && true) <|
    if (σ.1 1 (ix 0)) ≤ v3 then (
      some (v2, σ)
    ) else (
      bnd (f_X12_hoursOf v3 σ) fun r3 σ2 =>
      if r3 ≤ 0 then (
        f_X12_began_61 (f_X12_began_35 fu) v3 v2 0 σ2
      ) else (
        f_X12_began_61 (f_X12_began_35 fu) v3 v2 (shl 1 v3) σ2
      )
    )
set_option maxRecDepth 100000 in
set_option maxHeartbeats 4000000 in
theorem ok_X12_began_35 {κ : Kd}    : ∀ (fu : Nat) (v2 : Int32) (v3 : Int32) (σ : Sg) (q : (Int32 × Sg)), f_X12_began_35 fu v2 v3 σ = some q → AW κ pX12_began 4 (some (aI q.1), q.2) 35 [some (aR 12 0 0), none, some (aI v2), some (aI v3)] [] σ := by
  intro fu
  induction fu with
  | zero =>
    intro v2 v3 σ q h
    unfold f_X12_began_35 at h
    cases h
  | succ fu ih =>
    intro v2 v3 σ q h
    unfold f_X12_began_35 at h
    obtain ⟨hg, h⟩ := grd_some h
    refine aw_seq [(.iload_n 3, 1, ax0), (.aload_n 0, 1, ax0), (.getfield 7, 3, (axF 12 0 (2, 1, 13, some 1986))), (.iconst 0, 1, (axI 0)), (.iaload, 1, ax0)] (pc' := 42) (L' := [some (aR 12 0 0), none, some (aI v2), some (aI v3)]) (stk' := [aI (σ.1 1 (ix 0)), aI v3]) (σ' := σ) (g := [inb 0 1986]) (by decide +kernel) rfl hg ?_
    refine aw_icmp_ge (off := 27) (tgt := 69) (by decide +kernel) (by decide) (fun c1 => ?_) (fun c1 => ?_)
    · rw [if_pos c1] at h
      refine aw_seq [(.iload_n 2, 1, ax0)] (pc' := 70) (L' := [some (aR 12 0 0), none, some (aI v2), some (aI v3)]) (stk' := [aI v2]) (σ' := σ) (g := []) (by decide +kernel) rfl rfl ?_
      cases h
      exact aw_iret rfl (by decide +kernel)
    · rw [if_neg c1] at h
      refine aw_seq [(.iload_n 2, 1, ax0), (.aload_n 0, 1, ax0), (.iload_n 3, 1, ax0)] (pc' := 48) (L' := [some (aR 12 0 0), none, some (aI v2), some (aI v3)]) (stk' := [aI v3, aR 12 0 0, aI v2]) (σ' := σ) (g := []) (by decide +kernel) rfl rfl ?_
      obtain ⟨r3, σ2, h1, h⟩ := bnd_some h
      refine aw_cV (P' := pX12_hoursOf) (idx := 464) (d' := 2) (c := 12) (n := 0) (k := 0) [aI v3] [aI v2] (ov := (some (aI r3))) (stk2 := [aI r3, aI v2]) okp_X12_hoursOf (by decide +kernel) ml_RX12_464 vok_X12_hoursOf (by decide) rfl nar_X12_hoursOf (by decide) rfl (Nat.le_of_ble_eq_true rfl) (ok_X12_hoursOf h1) rfl ?_
      refine aw_if_le (off := 9) (tgt := 60) (by decide +kernel) (by decide) (fun c1 => ?_) (fun c1 => ?_)
      · rw [if_pos c1] at h
        refine aw_seq [(.iconst 0, 1, (axI 0))] (pc' := 61) (L' := [some (aR 12 0 0), none, some (aI v2), some (aI v3)]) (stk' := [aI 0, aI v2]) (σ' := σ2) (g := []) (by decide +kernel) rfl rfl ?_
        refine aw_forget (L' := [some (aR 12 0 0), none, none, some (aI v3)]) (lsub_s (lsub_n (lsub_n (lsub_s (lsub_0))))) ?_
        exact ok_X12_began_61 ih v3 v2 0 σ2 _ h
      · rw [if_neg c1] at h
        refine aw_seq [(.iconst 1, 1, (axI 1)), (.iload_n 3, 1, ax0), (.ishl, 1, ax0)] (pc' := 57) (L' := [some (aR 12 0 0), none, some (aI v2), some (aI v3)]) (stk' := [aI (shl 1 v3), aI v2]) (σ' := σ2) (g := []) (by decide +kernel) rfl rfl ?_
        refine aw_goto (off := 4) (tgt := 61) (by decide +kernel) (by decide) ?_
        refine aw_forget (L' := [some (aR 12 0 0), none, none, some (aI v3)]) (lsub_s (lsub_n (lsub_n (lsub_s (lsub_0))))) ?_
        exact ok_X12_began_61 ih v3 v2 (shl 1 v3) σ2 _ h
def f_X12_began_16   (v1 : Int32) (σ : Sg) : Option (Int32 × Sg) :=
  bndV (f_X12_layHops σ) fun σ5 =>
  if v1 = (-1) then (
    f_X12_began_35 FU 0 0 σ5
  ) else (
    bnd (f_X12_hoursOf v1 σ5) fun r8 σ7 =>
    some (r8, σ7)
  )
set_option maxRecDepth 100000 in
set_option maxHeartbeats 4000000 in
theorem ok_X12_began_16 {κ : Kd}    : ∀ (v1 : Int32) (σ : Sg) (q : (Int32 × Sg)), f_X12_began_16 v1 σ = some q → AW κ pX12_began 4 (some (aI q.1), q.2) 16 [some (aR 12 0 0), some (aI v1), none, none] [] σ := by
  intro v1 σ q h
  unfold f_X12_began_16 at h
  refine aw_seq [(.aload_n 0, 1, ax0)] (pc' := 17) (L' := [some (aR 12 0 0), some (aI v1), none, none]) (stk' := [aR 12 0 0]) (σ' := σ) (g := []) (by decide +kernel) rfl rfl ?_
  obtain ⟨σ5, h4, h⟩ := bndV_some h
  refine aw_cV (P' := pX12_layHops) (idx := 461) (d' := 3) (c := 12) (n := 0) (k := 0) [] [] (ov := none) (stk2 := []) okp_X12_layHops (by decide +kernel) ml_RX12_461 vok_X12_layHops (by decide) rfl nar_X12_layHops (by decide) rfl (Nat.le_of_ble_eq_true rfl) (ok_X12_layHops h4) rfl ?_
  refine aw_seq [(.iload_n 1, 1, ax0), (.iconst (-1), 1, (axI (-1)))] (pc' := 22) (L' := [some (aR 12 0 0), some (aI v1), none, none]) (stk' := [aI (-1), aI v1]) (σ' := σ5) (g := []) (by decide +kernel) rfl rfl ?_
  refine aw_icmp_eq (off := 9) (tgt := 31) (by decide +kernel) (by decide) (fun c1 => ?_) (fun c1 => ?_)
  · rw [if_pos c1] at h
    refine aw_seq [(.iconst 0, 1, (axI 0)), (.istore_n 2, 1, ax0), (.iconst 0, 1, (axI 0)), (.istore_n 3, 1, ax0)] (pc' := 35) (L' := [some (aR 12 0 0), some (aI v1), some (aI 0), some (aI 0)]) (stk' := []) (σ' := σ5) (g := []) (by decide +kernel) rfl rfl ?_
    refine aw_forget (L' := [some (aR 12 0 0), none, some (aI 0), some (aI 0)]) (lsub_s (lsub_n (lsub_s (lsub_s (lsub_0))))) ?_
    exact ok_X12_began_35 FU 0 0 σ5 _ h
  · rw [if_neg c1] at h
    refine aw_seq [(.aload_n 0, 1, ax0), (.iload_n 1, 1, ax0)] (pc' := 27) (L' := [some (aR 12 0 0), some (aI v1), none, none]) (stk' := [aI v1, aR 12 0 0]) (σ' := σ5) (g := []) (by decide +kernel) rfl rfl ?_
    obtain ⟨r8, σ7, h6, h⟩ := bnd_some h
    refine aw_cV (P' := pX12_hoursOf) (idx := 464) (d' := 2) (c := 12) (n := 0) (k := 0) [aI v1] [] (ov := (some (aI r8))) (stk2 := [aI r8]) okp_X12_hoursOf (by decide +kernel) ml_RX12_464 vok_X12_hoursOf (by decide) rfl nar_X12_hoursOf (by decide) rfl (Nat.le_of_ble_eq_true rfl) (ok_X12_hoursOf h6) rfl ?_
    cases h
    exact aw_iret rfl (by decide +kernel)
def f_X12_began (v1 : Int32) (σ : Sg) : Option (Int32 × Sg) :=
  if v1 = (-1) then (
    f_X12_began_16 v1 σ
  ) else (
    bnd (f_X12_isHouse v1 σ) fun r11 σ10 =>
    if r11 = 0 then (
      some ((-2), σ10)
    ) else (
      f_X12_began_16 v1 σ10
    )
  )
set_option maxRecDepth 100000 in
set_option maxHeartbeats 4000000 in
theorem ok_X12_began {κ : Kd} {v1 : Int32} {σ : Sg} {q : (Int32 × Sg)} (h : f_X12_began v1 σ = some q) : AMet κ pX12_began 4 [aR 12 0 0, aI v1] σ (some (aI q.1), q.2) := by
  unfold f_X12_began at h
  refine amet_of okp_X12_began [(false, aR 12 0 0), (false, aI v1)] (List.forall_mem_cons.mpr ⟨rfl, List.forall_mem_cons.mpr ⟨rfl, (fun _ hn => absurd hn List.not_mem_nil)⟩⟩) 2 rfl ?_
  show AW κ pX12_began 4 (some (aI q.1), q.2) 0 [some (aR 12 0 0), some (aI v1), none, none] [] σ
  refine aw_seq [(.iload_n 1, 1, ax0), (.iconst (-1), 1, (axI (-1)))] (pc' := 2) (L' := [some (aR 12 0 0), some (aI v1), none, none]) (stk' := [aI (-1), aI v1]) (σ' := σ) (g := []) (by decide +kernel) rfl rfl ?_
  refine aw_icmp_eq (off := 14) (tgt := 16) (by decide +kernel) (by decide) (fun c1 => ?_) (fun c1 => ?_)
  · rw [if_pos c1] at h
    refine aw_forget (L' := [some (aR 12 0 0), some (aI v1), none, none]) (lsub_s (lsub_s (lsub_n (lsub_n (lsub_0))))) ?_
    exact ok_X12_began_16 v1 σ _ h
  · rw [if_neg c1] at h
    refine aw_seq [(.aload_n 0, 1, ax0), (.iload_n 1, 1, ax0)] (pc' := 7) (L' := [some (aR 12 0 0), some (aI v1), none, none]) (stk' := [aI v1, aR 12 0 0]) (σ' := σ) (g := []) (by decide +kernel) rfl rfl ?_
    obtain ⟨r11, σ10, h9, h⟩ := bnd_some h
    refine aw_cV (P' := pX12_isHouse) (idx := 88) (d' := 2) (c := 12) (n := 0) (k := 0) [aI v1] [] (ov := (some (aI r11))) (stk2 := [aI r11]) okp_X12_isHouse (by decide +kernel) ml_RX12_88 vok_X12_isHouse (by decide) rfl nar_X12_isHouse (by decide) rfl (Nat.le_of_ble_eq_true rfl) (ok_X12_isHouse h9) rfl ?_
    refine aw_if_ne (off := 6) (tgt := 16) (by decide +kernel) (by decide) (fun c1 => ?_) (fun c1 => ?_)
    · rw [if_neg c1] at h
      refine aw_forget (L' := [some (aR 12 0 0), some (aI v1), none, none]) (lsub_s (lsub_s (lsub_n (lsub_n (lsub_0))))) ?_
      exact ok_X12_began_16 v1 σ10 _ h
    · rw [if_pos c1] at h
      refine aw_seq [(.bipush (-2), 2, (axI (-2)))] (pc' := 15) (L' := [some (aR 12 0 0), some (aI v1), none, none]) (stk' := [aI (-2)]) (σ' := σ10) (g := []) (by decide +kernel) rfl rfl ?_
      cases h
      exact aw_iret rfl (by decide +kernel)
def f_X12_answers_122  (rec_38 : Int32 → Int32 → Int32 → Int32 → Sg → Option (Int32 × Sg)) (v1 : Int32) (v2 : Int32) (v3 : Int32) (v4 : Int32) (σ : Sg) : Option (Int32 × Sg) :=
  rec_38 v1 v2 v3 (v4 + 1) σ
set_option maxRecDepth 100000 in
set_option maxHeartbeats 4000000 in
theorem ok_X12_answers_122 {κ : Kd}   {rec_38 : Int32 → Int32 → Int32 → Int32 → Sg → Option (Int32 × Sg)} (hrec_38 : ∀ (v1 : Int32) (v2 : Int32) (v3 : Int32) (v4 : Int32) (σ : Sg) (q : (Int32 × Sg)), rec_38 v1 v2 v3 v4 σ = some q → AW κ pX12_answers 2 (some (aI q.1), q.2) 38 [some (aR 12 0 0), some (aI v1), some (aI v2), some (aI v3), some (aI v4), none] [] σ) : ∀ (v1 : Int32) (v2 : Int32) (v3 : Int32) (v4 : Int32) (σ : Sg) (q : (Int32 × Sg)), f_X12_answers_122 rec_38 v1 v2 v3 v4 σ = some q → AW κ pX12_answers 2 (some (aI q.1), q.2) 122 [some (aR 12 0 0), some (aI v1), some (aI v2), some (aI v3), some (aI v4), none] [] σ := by
  intro v1 v2 v3 v4 σ q h
  unfold f_X12_answers_122 at h
  refine aw_seq [(.iinc 4 1, 3, (axI 1))] (pc' := 125) (L' := [some (aR 12 0 0), some (aI v1), some (aI v2), some (aI v3), some (aI (v4 + 1)), none]) (stk' := []) (σ' := σ) (g := []) (by decide +kernel) rfl rfl ?_
  refine aw_goto (off := (-87)) (tgt := 38) (by decide +kernel) (by decide) ?_
  refine aw_forget (L' := [some (aR 12 0 0), some (aI v1), some (aI v2), some (aI v3), some (aI (v4 + 1)), none]) (lsub_s (lsub_s (lsub_s (lsub_s (lsub_s (lsub_n (lsub_0))))))) ?_
  exact hrec_38 v1 v2 v3 (v4 + 1) σ _ h
def f_X12_answers_112  (rec_38 : Int32 → Int32 → Int32 → Int32 → Sg → Option (Int32 × Sg)) (v1 : Int32) (v3 : Int32) (v4 : Int32) (v5 : Int32) (s0 : Int32) (s1 : Int32) (σ : Sg) : Option (Int32 × Sg) :=
  grd ((inb v5 120 && bz 1) && true) <|
  ltσ (wI σ 14 (ix v5) 1) fun σ1 =>
  f_X12_answers_122 rec_38 v1 (s0 + s1) v3 v4 σ1
set_option maxRecDepth 100000 in
set_option maxHeartbeats 4000000 in
theorem ok_X12_answers_112 {κ : Kd}   {rec_38 : Int32 → Int32 → Int32 → Int32 → Sg → Option (Int32 × Sg)} (hrec_38 : ∀ (v1 : Int32) (v2 : Int32) (v3 : Int32) (v4 : Int32) (σ : Sg) (q : (Int32 × Sg)), rec_38 v1 v2 v3 v4 σ = some q → AW κ pX12_answers 2 (some (aI q.1), q.2) 38 [some (aR 12 0 0), some (aI v1), some (aI v2), some (aI v3), some (aI v4), none] [] σ) : ∀ (v1 : Int32) (v3 : Int32) (v4 : Int32) (v5 : Int32) (s0 : Int32) (s1 : Int32) (σ : Sg) (q : (Int32 × Sg)), f_X12_answers_112 rec_38 v1 v3 v4 v5 s0 s1 σ = some q → AW κ pX12_answers 2 (some (aI q.1), q.2) 112 [some (aR 12 0 0), some (aI v1), none, some (aI v3), some (aI v4), some (aI v5)] [aI s1, aI s0] σ := by
  intro v1 v3 v4 v5 s0 s1 σ q h
  unfold f_X12_answers_112 at h
  obtain ⟨hg, h⟩ := grd_some h
  obtain ⟨σ1, e2, h⟩ := ltσ_some h
  refine aw_seq [(.iadd, 1, ax0), (.istore_n 2, 1, ax0), (.aload_n 0, 1, ax0), (.getfield 62, 3, (axF 12 31 (2, 14, 15, some 120))), (.iload 5, 2, ax0), (.iconst 1, 1, (axI 1)), (.bastore, 1, ax0)] (pc' := 122) (L' := [some (aR 12 0 0), some (aI v1), some (aI (s0 + s1)), some (aI v3), some (aI v4), some (aI v5)]) (stk' := []) (σ' := σ1) (g := [(inb v5 120 && bz 1)]) (by decide +kernel) (by rw [e2]; rfl) hg ?_
  refine aw_forget (L' := [some (aR 12 0 0), some (aI v1), some (aI (s0 + s1)), some (aI v3), some (aI v4), none]) (lsub_s (lsub_s (lsub_s (lsub_s (lsub_s (lsub_n (lsub_0))))))) ?_
  exact ok_X12_answers_122 hrec_38 v1 (s0 + s1) v3 v4 σ1 _ h
def f_X12_answers_94  (rec_38 : Int32 → Int32 → Int32 → Int32 → Sg → Option (Int32 × Sg)) (v1 : Int32) (v2 : Int32) (v3 : Int32) (v4 : Int32) (s0 : Int32) (σ : Sg) : Option (Int32 × Sg) :=
  grd (inb s0 120 && true) <|
  if (σ.1 14 (ix s0)) = 0 then (
    f_X12_answers_112 rec_38 v1 v3 v4 s0 v2 1 σ
  ) else (
    f_X12_answers_112 rec_38 v1 v3 v4 s0 v2 0 σ
  )
set_option maxRecDepth 100000 in
set_option maxHeartbeats 4000000 in
theorem ok_X12_answers_94 {κ : Kd}   {rec_38 : Int32 → Int32 → Int32 → Int32 → Sg → Option (Int32 × Sg)} (hrec_38 : ∀ (v1 : Int32) (v2 : Int32) (v3 : Int32) (v4 : Int32) (σ : Sg) (q : (Int32 × Sg)), rec_38 v1 v2 v3 v4 σ = some q → AW κ pX12_answers 2 (some (aI q.1), q.2) 38 [some (aR 12 0 0), some (aI v1), some (aI v2), some (aI v3), some (aI v4), none] [] σ) : ∀ (v1 : Int32) (v2 : Int32) (v3 : Int32) (v4 : Int32) (s0 : Int32) (σ : Sg) (q : (Int32 × Sg)), f_X12_answers_94 rec_38 v1 v2 v3 v4 s0 σ = some q → AW κ pX12_answers 2 (some (aI q.1), q.2) 94 [some (aR 12 0 0), some (aI v1), some (aI v2), some (aI v3), some (aI v4), none] [aI s0] σ := by
  intro v1 v2 v3 v4 s0 σ q h
  unfold f_X12_answers_94 at h
  obtain ⟨hg, h⟩ := grd_some h
  refine aw_seq [(.istore 5, 2, ax0), (.iload_n 2, 1, ax0), (.aload_n 0, 1, ax0), (.getfield 62, 3, (axF 12 31 (2, 14, 15, some 120))), (.iload 5, 2, ax0), (.baload, 1, ax0)] (pc' := 104) (L' := [some (aR 12 0 0), some (aI v1), some (aI v2), some (aI v3), some (aI v4), some (aI s0)]) (stk' := [aI (σ.1 14 (ix s0)), aI v2]) (σ' := σ) (g := [inb s0 120]) (by decide +kernel) rfl hg ?_
  refine aw_if_eq (off := 7) (tgt := 111) (by decide +kernel) (by decide) (fun c1 => ?_) (fun c1 => ?_)
  · rw [if_pos c1] at h
    refine aw_seq [(.iconst 1, 1, (axI 1))] (pc' := 112) (L' := [some (aR 12 0 0), some (aI v1), some (aI v2), some (aI v3), some (aI v4), some (aI s0)]) (stk' := [aI 1, aI v2]) (σ' := σ) (g := []) (by decide +kernel) rfl rfl ?_
    refine aw_forget (L' := [some (aR 12 0 0), some (aI v1), none, some (aI v3), some (aI v4), some (aI s0)]) (lsub_s (lsub_s (lsub_n (lsub_s (lsub_s (lsub_s (lsub_0))))))) ?_
    exact ok_X12_answers_112 hrec_38 v1 v3 v4 s0 v2 1 σ _ h
  · rw [if_neg c1] at h
    refine aw_seq [(.iconst 0, 1, (axI 0))] (pc' := 108) (L' := [some (aR 12 0 0), some (aI v1), some (aI v2), some (aI v3), some (aI v4), some (aI s0)]) (stk' := [aI 0, aI v2]) (σ' := σ) (g := []) (by decide +kernel) rfl rfl ?_
    refine aw_goto (off := 4) (tgt := 112) (by decide +kernel) (by decide) ?_
    refine aw_forget (L' := [some (aR 12 0 0), some (aI v1), none, some (aI v3), some (aI v4), some (aI s0)]) (lsub_s (lsub_s (lsub_n (lsub_s (lsub_s (lsub_s (lsub_0))))))) ?_
    exact ok_X12_answers_112 hrec_38 v1 v3 v4 s0 v2 0 σ _ h
def f_X12_answers_38  (rec_25 : Int32 → Int32 → Int32 → Sg → Option (Int32 × Sg)) : Nat → Int32 → Int32 → Int32 → Int32 → Sg → Option (Int32 × Sg)
  | 0, _, _, _, _, _ => none
  | fu + 1, v1, v2, v3, v4, σ =>
    if 100 ≤ v4 then (
      rec_25 v1 v2 (v3 + 1) σ
    ) else (
      bnd (f_X12_isBegun v3 v4 σ) fun r5 σ4 =>
      if r5 = 0 then (
        f_X12_answers_122 (f_X12_answers_38 rec_25 fu) v1 v2 v3 v4 σ4
      ) else (
        grd (inb ((8 * v3) + v1) 64 && true) <|
        if (σ4.1 13 (ix ((8 * v3) + v1))) = 1000000 then (
          f_X12_answers_94 (f_X12_answers_38 rec_25 fu) v1 v2 v3 v4 119 σ4
        ) else (
          grd (inb ((8 * v3) + v1) 64 && true) <|
          f_X12_answers_94 (f_X12_answers_38 rec_25 fu) v1 v2 v3 v4 (v4 + (σ4.1 13 (ix ((8 * v3) + v1)))) σ4
        )
      )
    )
set_option maxRecDepth 100000 in
set_option maxHeartbeats 4000000 in
theorem ok_X12_answers_38 {κ : Kd}   {rec_25 : Int32 → Int32 → Int32 → Sg → Option (Int32 × Sg)} (hrec_25 : ∀ (v1 : Int32) (v2 : Int32) (v3 : Int32) (σ : Sg) (q : (Int32 × Sg)), rec_25 v1 v2 v3 σ = some q → AW κ pX12_answers 2 (some (aI q.1), q.2) 25 [some (aR 12 0 0), some (aI v1), some (aI v2), some (aI v3), none, none] [] σ) : ∀ (fu : Nat) (v1 : Int32) (v2 : Int32) (v3 : Int32) (v4 : Int32) (σ : Sg) (q : (Int32 × Sg)), f_X12_answers_38 rec_25 fu v1 v2 v3 v4 σ = some q → AW κ pX12_answers 2 (some (aI q.1), q.2) 38 [some (aR 12 0 0), some (aI v1), some (aI v2), some (aI v3), some (aI v4), none] [] σ := by
  intro fu
  induction fu with
  | zero =>
    intro v1 v2 v3 v4 σ q h
    unfold f_X12_answers_38 at h
    cases h
  | succ fu ih =>
    intro v1 v2 v3 v4 σ q h
    unfold f_X12_answers_38 at h
    refine aw_seq [(.iload 4, 2, ax0), (.bipush 100, 2, (axI 100))] (pc' := 42) (L' := [some (aR 12 0 0), some (aI v1), some (aI v2), some (aI v3), some (aI v4), none]) (stk' := [aI 100, aI v4]) (σ' := σ) (g := []) (by decide +kernel) rfl rfl ?_
    refine aw_icmp_ge (off := 86) (tgt := 128) (by decide +kernel) (by decide) (fun c1 => ?_) (fun c1 => ?_)
    · rw [if_pos c1] at h
      refine aw_seq [(.iinc 3 1, 3, (axI 1))] (pc' := 131) (L' := [some (aR 12 0 0), some (aI v1), some (aI v2), some (aI (v3 + 1)), some (aI v4), none]) (stk' := []) (σ' := σ) (g := []) (by decide +kernel) rfl rfl ?_
      refine aw_goto (off := (-106)) (tgt := 25) (by decide +kernel) (by decide) ?_
      refine aw_forget (L' := [some (aR 12 0 0), some (aI v1), some (aI v2), some (aI (v3 + 1)), none, none]) (lsub_s (lsub_s (lsub_s (lsub_s (lsub_n (lsub_n (lsub_0))))))) ?_
      exact hrec_25 v1 v2 (v3 + 1) σ _ h
    · rw [if_neg c1] at h
      refine aw_seq [(.aload_n 0, 1, ax0), (.iload_n 3, 1, ax0), (.iload 4, 2, ax0)] (pc' := 49) (L' := [some (aR 12 0 0), some (aI v1), some (aI v2), some (aI v3), some (aI v4), none]) (stk' := [aI v4, aI v3, aR 12 0 0]) (σ' := σ) (g := []) (by decide +kernel) rfl rfl ?_
      obtain ⟨r5, σ4, h3, h⟩ := bnd_some h
      refine aw_cV (P' := pX12_isBegun) (idx := 458) (d' := 1) (c := 12) (n := 0) (k := 0) [aI v3, aI v4] [] (ov := (some (aI r5))) (stk2 := [aI r5]) okp_X12_isBegun (by decide +kernel) ml_RX12_458 vok_X12_isBegun (by decide) rfl nar_X12_isBegun (by decide) rfl (Nat.le_of_ble_eq_true rfl) (ok_X12_isBegun h3) rfl ?_
      refine aw_if_ne (off := 6) (tgt := 58) (by decide +kernel) (by decide) (fun c1 => ?_) (fun c1 => ?_)
      · rw [if_neg c1] at h
        obtain ⟨hg, h⟩ := grd_some h
        refine aw_seq [(.aload_n 0, 1, ax0), (.getfield 59, 3, (axF 12 30 (2, 13, 13, some 64))), (.bipush 8, 2, (axI 8)), (.iload_n 3, 1, ax0), (.imul, 1, ax0), (.iload_n 1, 1, ax0), (.iadd, 1, ax0), (.iaload, 1, ax0), (.ldc_w 430, 3, (axI 1000000))] (pc' := 72) (L' := [some (aR 12 0 0), some (aI v1), some (aI v2), some (aI v3), some (aI v4), none]) (stk' := [aI 1000000, aI (σ4.1 13 (ix ((8 * v3) + v1)))]) (σ' := σ4) (g := [inb ((8 * v3) + v1) 64]) (by decide +kernel) rfl hg ?_
        refine aw_icmp_ne (off := 8) (tgt := 80) (by decide +kernel) (by decide) (fun c1 => ?_) (fun c1 => ?_)
        · rw [if_neg c1] at h
          obtain ⟨hg, h⟩ := grd_some h
          refine aw_seq [(.iload 4, 2, ax0), (.aload_n 0, 1, ax0), (.getfield 59, 3, (axF 12 30 (2, 13, 13, some 64))), (.bipush 8, 2, (axI 8)), (.iload_n 3, 1, ax0), (.imul, 1, ax0), (.iload_n 1, 1, ax0), (.iadd, 1, ax0), (.iaload, 1, ax0), (.iadd, 1, ax0)] (pc' := 94) (L' := [some (aR 12 0 0), some (aI v1), some (aI v2), some (aI v3), some (aI v4), none]) (stk' := [aI (v4 + (σ4.1 13 (ix ((8 * v3) + v1))))]) (σ' := σ4) (g := [inb ((8 * v3) + v1) 64]) (by decide +kernel) rfl hg ?_
          refine aw_forget (L' := [some (aR 12 0 0), some (aI v1), some (aI v2), some (aI v3), some (aI v4), none]) (lsub_s (lsub_s (lsub_s (lsub_s (lsub_s (lsub_n (lsub_0))))))) ?_
          exact ok_X12_answers_94 ih v1 v2 v3 v4 (v4 + (σ4.1 13 (ix ((8 * v3) + v1)))) σ4 _ h
        · rw [if_pos c1] at h
          refine aw_seq [(.bipush 119, 2, (axI 119))] (pc' := 77) (L' := [some (aR 12 0 0), some (aI v1), some (aI v2), some (aI v3), some (aI v4), none]) (stk' := [aI 119]) (σ' := σ4) (g := []) (by decide +kernel) rfl rfl ?_
          refine aw_goto (off := 17) (tgt := 94) (by decide +kernel) (by decide) ?_
          refine aw_forget (L' := [some (aR 12 0 0), some (aI v1), some (aI v2), some (aI v3), some (aI v4), none]) (lsub_s (lsub_s (lsub_s (lsub_s (lsub_s (lsub_n (lsub_0))))))) ?_
          exact ok_X12_answers_94 ih v1 v2 v3 v4 119 σ4 _ h
      · rw [if_pos c1] at h
        refine aw_goto (off := 67) (tgt := 122) (by decide +kernel) (by decide) ?_
        refine aw_forget (L' := [some (aR 12 0 0), some (aI v1), some (aI v2), some (aI v3), some (aI v4), none]) (lsub_s (lsub_s (lsub_s (lsub_s (lsub_s (lsub_n (lsub_0))))))) ?_
        exact ok_X12_answers_122 ih v1 v2 v3 v4 σ4 _ h
def f_X12_answers_25   : Nat → Int32 → Int32 → Int32 → Sg → Option (Int32 × Sg)
  | 0, _, _, _, _ => none
  | fu + 1, v1, v2, v3, σ =>
    grd (inb 0 1986 && true) <|
    if (σ.1 1 (ix 0)) ≤ v3 then (
      some (v2, σ)
    ) else (
      f_X12_answers_38 (f_X12_answers_25 fu) FU v1 v2 v3 0 σ
    )
set_option maxRecDepth 100000 in
set_option maxHeartbeats 4000000 in
theorem ok_X12_answers_25 {κ : Kd}    : ∀ (fu : Nat) (v1 : Int32) (v2 : Int32) (v3 : Int32) (σ : Sg) (q : (Int32 × Sg)), f_X12_answers_25 fu v1 v2 v3 σ = some q → AW κ pX12_answers 2 (some (aI q.1), q.2) 25 [some (aR 12 0 0), some (aI v1), some (aI v2), some (aI v3), none, none] [] σ := by
  intro fu
  induction fu with
  | zero =>
    intro v1 v2 v3 σ q h
    unfold f_X12_answers_25 at h
    cases h
  | succ fu ih =>
    intro v1 v2 v3 σ q h
    unfold f_X12_answers_25 at h
    obtain ⟨hg, h⟩ := grd_some h
    refine aw_seq [(.iload_n 3, 1, ax0), (.aload_n 0, 1, ax0), (.getfield 7, 3, (axF 12 0 (2, 1, 13, some 1986))), (.iconst 0, 1, (axI 0)), (.iaload, 1, ax0)] (pc' := 32) (L' := [some (aR 12 0 0), some (aI v1), some (aI v2), some (aI v3), none, none]) (stk' := [aI (σ.1 1 (ix 0)), aI v3]) (σ' := σ) (g := [inb 0 1986]) (by decide +kernel) rfl hg ?_
    refine aw_icmp_ge (off := 102) (tgt := 134) (by decide +kernel) (by decide) (fun c1 => ?_) (fun c1 => ?_)
    · rw [if_pos c1] at h
      refine aw_seq [(.iload_n 2, 1, ax0)] (pc' := 135) (L' := [some (aR 12 0 0), some (aI v1), some (aI v2), some (aI v3), none, none]) (stk' := [aI v2]) (σ' := σ) (g := []) (by decide +kernel) rfl rfl ?_
      cases h
      exact aw_iret rfl (by decide +kernel)
    · rw [if_neg c1] at h
      refine aw_seq [(.iconst 0, 1, (axI 0)), (.istore 4, 2, ax0)] (pc' := 38) (L' := [some (aR 12 0 0), some (aI v1), some (aI v2), some (aI v3), some (aI 0), none]) (stk' := []) (σ' := σ) (g := []) (by decide +kernel) rfl rfl ?_
      refine aw_forget (L' := [some (aR 12 0 0), some (aI v1), some (aI v2), some (aI v3), some (aI 0), none]) (lsub_s (lsub_s (lsub_s (lsub_s (lsub_s (lsub_n (lsub_0))))))) ?_
      exact ok_X12_answers_38 ih FU v1 v2 v3 0 σ _ h
def f_X12_answers_2   : Nat → Int32 → Int32 → Sg → Option (Int32 × Sg)
  | 0, _, _, _ => none
  | fu + 1, v1, v2, σ =>
    if 120 ≤ v2 then (
      f_X12_answers_25 FU v1 0 0 σ
    ) else (
      grd ((inb v2 120 && bz 0) && true) <|
      ltσ (wI σ 14 (ix v2) 0) fun σ6 =>
      (f_X12_answers_2 fu) v1 (v2 + 1) σ6
    )
set_option maxRecDepth 100000 in
set_option maxHeartbeats 4000000 in
theorem ok_X12_answers_2 {κ : Kd}    : ∀ (fu : Nat) (v1 : Int32) (v2 : Int32) (σ : Sg) (q : (Int32 × Sg)), f_X12_answers_2 fu v1 v2 σ = some q → AW κ pX12_answers 2 (some (aI q.1), q.2) 2 [some (aR 12 0 0), some (aI v1), some (aI v2), none, none, none] [] σ := by
  intro fu
  induction fu with
  | zero =>
    intro v1 v2 σ q h
    unfold f_X12_answers_2 at h
    cases h
  | succ fu ih =>
    intro v1 v2 σ q h
    unfold f_X12_answers_2 at h
    refine aw_seq [(.iload_n 2, 1, ax0), (.bipush 120, 2, (axI 120))] (pc' := 5) (L' := [some (aR 12 0 0), some (aI v1), some (aI v2), none, none, none]) (stk' := [aI 120, aI v2]) (σ' := σ) (g := []) (by decide +kernel) rfl rfl ?_
    refine aw_icmp_ge (off := 16) (tgt := 21) (by decide +kernel) (by decide) (fun c1 => ?_) (fun c1 => ?_)
    · rw [if_pos c1] at h
      refine aw_seq [(.iconst 0, 1, (axI 0)), (.istore_n 2, 1, ax0), (.iconst 0, 1, (axI 0)), (.istore_n 3, 1, ax0)] (pc' := 25) (L' := [some (aR 12 0 0), some (aI v1), some (aI 0), some (aI 0), none, none]) (stk' := []) (σ' := σ) (g := []) (by decide +kernel) rfl rfl ?_
      refine aw_forget (L' := [some (aR 12 0 0), some (aI v1), some (aI 0), some (aI 0), none, none]) (lsub_s (lsub_s (lsub_s (lsub_s (lsub_n (lsub_n (lsub_0))))))) ?_
      exact ok_X12_answers_25 FU v1 0 0 σ _ h
    · rw [if_neg c1] at h
      obtain ⟨hg, h⟩ := grd_some h
      obtain ⟨σ6, e7, h⟩ := ltσ_some h
      refine aw_seq [(.aload_n 0, 1, ax0), (.getfield 62, 3, (axF 12 31 (2, 14, 15, some 120))), (.iload_n 2, 1, ax0), (.iconst 0, 1, (axI 0)), (.bastore, 1, ax0)] (pc' := 15) (L' := [some (aR 12 0 0), some (aI v1), some (aI v2), none, none, none]) (stk' := []) (σ' := σ6) (g := [(inb v2 120 && bz 0)]) (by decide +kernel) (by rw [e7]; rfl) hg ?_
      refine aw_seq [(.iinc 2 1, 3, (axI 1))] (pc' := 18) (L' := [some (aR 12 0 0), some (aI v1), some (aI (v2 + 1)), none, none, none]) (stk' := []) (σ' := σ6) (g := []) (by decide +kernel) rfl rfl ?_
      refine aw_goto (off := (-16)) (tgt := 2) (by decide +kernel) (by decide) ?_
      refine aw_forget (L' := [some (aR 12 0 0), some (aI v1), some (aI (v2 + 1)), none, none, none]) (lsub_s (lsub_s (lsub_s (lsub_n (lsub_n (lsub_n (lsub_0))))))) ?_
      exact ih v1 (v2 + 1) σ6 _ h
def f_X12_answers (v1 : Int32) (σ : Sg) : Option (Int32 × Sg) :=
  f_X12_answers_2 FU v1 0 σ
set_option maxRecDepth 100000 in
set_option maxHeartbeats 4000000 in
theorem ok_X12_answers {κ : Kd} {v1 : Int32} {σ : Sg} {q : (Int32 × Sg)} (h : f_X12_answers v1 σ = some q) : AMet κ pX12_answers 2 [aR 12 0 0, aI v1] σ (some (aI q.1), q.2) := by
  unfold f_X12_answers at h
  refine amet_of okp_X12_answers [(false, aR 12 0 0), (false, aI v1)] (List.forall_mem_cons.mpr ⟨rfl, List.forall_mem_cons.mpr ⟨rfl, (fun _ hn => absurd hn List.not_mem_nil)⟩⟩) 4 rfl ?_
  show AW κ pX12_answers 2 (some (aI q.1), q.2) 0 [some (aR 12 0 0), some (aI v1), none, none, none, none] [] σ
  refine aw_seq [(.iconst 0, 1, (axI 0)), (.istore_n 2, 1, ax0)] (pc' := 2) (L' := [some (aR 12 0 0), some (aI v1), some (aI 0), none, none, none]) (stk' := []) (σ' := σ) (g := []) (by decide +kernel) rfl rfl ?_
  refine aw_forget (L' := [some (aR 12 0 0), some (aI v1), some (aI 0), none, none, none]) (lsub_s (lsub_s (lsub_s (lsub_n (lsub_n (lsub_n (lsub_0))))))) ?_
  exact ok_X12_answers_2 FU v1 0 σ _ h
def f_X12_whom_41  (rec_10 : Int32 → Int32 → Int32 → Sg → Option (Int32 × Sg)) (v1 : Int32) (v2 : Int32) (v3 : Int32) (σ : Sg) : Option (Int32 × Sg) :=
  rec_10 v1 v2 (v3 + 1) σ
set_option maxRecDepth 100000 in
set_option maxHeartbeats 4000000 in
theorem ok_X12_whom_41 {κ : Kd}   {rec_10 : Int32 → Int32 → Int32 → Sg → Option (Int32 × Sg)} (hrec_10 : ∀ (v1 : Int32) (v2 : Int32) (v3 : Int32) (σ : Sg) (q : (Int32 × Sg)), rec_10 v1 v2 v3 σ = some q → AW κ pX12_whom 4 (some (aI q.1), q.2) 10 [some (aR 12 0 0), some (aI v1), some (aI v2), some (aI v3), none] [] σ) : ∀ (v1 : Int32) (v2 : Int32) (v3 : Int32) (σ : Sg) (q : (Int32 × Sg)), f_X12_whom_41 rec_10 v1 v2 v3 σ = some q → AW κ pX12_whom 4 (some (aI q.1), q.2) 41 [some (aR 12 0 0), some (aI v1), some (aI v2), some (aI v3), none] [] σ := by
  intro v1 v2 v3 σ q h
  unfold f_X12_whom_41 at h
  refine aw_seq [(.iinc 3 1, 3, (axI 1))] (pc' := 44) (L' := [some (aR 12 0 0), some (aI v1), some (aI v2), some (aI (v3 + 1)), none]) (stk' := []) (σ' := σ) (g := []) (by decide +kernel) rfl rfl ?_
  refine aw_goto (off := (-34)) (tgt := 10) (by decide +kernel) (by decide) ?_
  refine aw_forget (L' := [some (aR 12 0 0), some (aI v1), some (aI v2), some (aI (v3 + 1)), none]) (lsub_s (lsub_s (lsub_s (lsub_s (lsub_n (lsub_0)))))) ?_
  exact hrec_10 v1 v2 (v3 + 1) σ _ h
def f_X12_whom_10   : Nat → Int32 → Int32 → Int32 → Sg → Option (Int32 × Sg)
  | 0, _, _, _, _ => none
  | fu + 1, v1, v2, v3, σ =>
    grd (inb 0 1986 && true) <|
    if (σ.1 1 (ix 0)) ≤ v3 then (
      some (v1, σ)
    ) else (
      bnd (f_X12_answers v3 σ) fun r3 σ2 =>
      if v2 < r3 then (
        f_X12_whom_41 (f_X12_whom_10 fu) v3 r3 v3 σ2
      ) else (
        f_X12_whom_41 (f_X12_whom_10 fu) v1 v2 v3 σ2
      )
    )
set_option maxRecDepth 100000 in
set_option maxHeartbeats 4000000 in
theorem ok_X12_whom_10 {κ : Kd}    : ∀ (fu : Nat) (v1 : Int32) (v2 : Int32) (v3 : Int32) (σ : Sg) (q : (Int32 × Sg)), f_X12_whom_10 fu v1 v2 v3 σ = some q → AW κ pX12_whom 4 (some (aI q.1), q.2) 10 [some (aR 12 0 0), some (aI v1), some (aI v2), some (aI v3), none] [] σ := by
  intro fu
  induction fu with
  | zero =>
    intro v1 v2 v3 σ q h
    unfold f_X12_whom_10 at h
    cases h
  | succ fu ih =>
    intro v1 v2 v3 σ q h
    unfold f_X12_whom_10 at h
    obtain ⟨hg, h⟩ := grd_some h
    refine aw_seq [(.iload_n 3, 1, ax0), (.aload_n 0, 1, ax0), (.getfield 7, 3, (axF 12 0 (2, 1, 13, some 1986))), (.iconst 0, 1, (axI 0)), (.iaload, 1, ax0)] (pc' := 17) (L' := [some (aR 12 0 0), some (aI v1), some (aI v2), some (aI v3), none]) (stk' := [aI (σ.1 1 (ix 0)), aI v3]) (σ' := σ) (g := [inb 0 1986]) (by decide +kernel) rfl hg ?_
    refine aw_icmp_ge (off := 30) (tgt := 47) (by decide +kernel) (by decide) (fun c1 => ?_) (fun c1 => ?_)
    · rw [if_pos c1] at h
      refine aw_seq [(.iload_n 1, 1, ax0)] (pc' := 48) (L' := [some (aR 12 0 0), some (aI v1), some (aI v2), some (aI v3), none]) (stk' := [aI v1]) (σ' := σ) (g := []) (by decide +kernel) rfl rfl ?_
      cases h
      exact aw_iret rfl (by decide +kernel)
    · rw [if_neg c1] at h
      refine aw_seq [(.aload_n 0, 1, ax0), (.iload_n 3, 1, ax0)] (pc' := 22) (L' := [some (aR 12 0 0), some (aI v1), some (aI v2), some (aI v3), none]) (stk' := [aI v3, aR 12 0 0]) (σ' := σ) (g := []) (by decide +kernel) rfl rfl ?_
      obtain ⟨r3, σ2, h1, h⟩ := bnd_some h
      refine aw_cV (P' := pX12_answers) (idx := 467) (d' := 2) (c := 12) (n := 0) (k := 0) [aI v3] [] (ov := (some (aI r3))) (stk2 := [aI r3]) okp_X12_answers (by decide +kernel) ml_RX12_467 vok_X12_answers (by decide) rfl nar_X12_answers (by decide) rfl (Nat.le_of_ble_eq_true rfl) (ok_X12_answers h1) rfl ?_
      refine aw_seq [(.istore 4, 2, ax0), (.iload 4, 2, ax0), (.iload_n 2, 1, ax0)] (pc' := 30) (L' := [some (aR 12 0 0), some (aI v1), some (aI v2), some (aI v3), some (aI r3)]) (stk' := [aI v2, aI r3]) (σ' := σ2) (g := []) (by decide +kernel) rfl rfl ?_
      refine aw_icmp_gt (off := 6) (tgt := 36) (by decide +kernel) (by decide) (fun c1 => ?_) (fun c1 => ?_)
      · rw [if_pos c1] at h
        refine aw_seq [(.iload 4, 2, ax0), (.istore_n 2, 1, ax0), (.iload_n 3, 1, ax0), (.istore_n 1, 1, ax0)] (pc' := 41) (L' := [some (aR 12 0 0), some (aI v3), some (aI r3), some (aI v3), some (aI r3)]) (stk' := []) (σ' := σ2) (g := []) (by decide +kernel) rfl rfl ?_
        refine aw_forget (L' := [some (aR 12 0 0), some (aI v3), some (aI r3), some (aI v3), none]) (lsub_s (lsub_s (lsub_s (lsub_s (lsub_n (lsub_0)))))) ?_
        exact ok_X12_whom_41 ih v3 r3 v3 σ2 _ h
      · rw [if_neg c1] at h
        refine aw_goto (off := 8) (tgt := 41) (by decide +kernel) (by decide) ?_
        refine aw_forget (L' := [some (aR 12 0 0), some (aI v1), some (aI v2), some (aI v3), none]) (lsub_s (lsub_s (lsub_s (lsub_s (lsub_n (lsub_0)))))) ?_
        exact ok_X12_whom_41 ih v1 v2 v3 σ2 _ h
def f_X12_whom  (σ : Sg) : Option (Int32 × Sg) :=
  bndV (f_X12_layHops σ) fun σ5 =>
  f_X12_whom_10 FU (-1) 0 0 σ5
set_option maxRecDepth 100000 in
set_option maxHeartbeats 4000000 in
theorem ok_X12_whom {κ : Kd}  {σ : Sg} {q : (Int32 × Sg)} (h : f_X12_whom σ = some q) : AMet κ pX12_whom 4 [aR 12 0 0] σ (some (aI q.1), q.2) := by
  unfold f_X12_whom at h
  refine amet_of okp_X12_whom [(false, aR 12 0 0)] (List.forall_mem_cons.mpr ⟨rfl, (fun _ hn => absurd hn List.not_mem_nil)⟩) 4 rfl ?_
  show AW κ pX12_whom 4 (some (aI q.1), q.2) 0 [some (aR 12 0 0), none, none, none, none] [] σ
  refine aw_seq [(.aload_n 0, 1, ax0)] (pc' := 1) (L' := [some (aR 12 0 0), none, none, none, none]) (stk' := [aR 12 0 0]) (σ' := σ) (g := []) (by decide +kernel) rfl rfl ?_
  obtain ⟨σ5, h4, h⟩ := bndV_some h
  refine aw_cV (P' := pX12_layHops) (idx := 461) (d' := 3) (c := 12) (n := 0) (k := 0) [] [] (ov := none) (stk2 := []) okp_X12_layHops (by decide +kernel) ml_RX12_461 vok_X12_layHops (by decide) rfl nar_X12_layHops (by decide) rfl (Nat.le_of_ble_eq_true rfl) (ok_X12_layHops h4) rfl ?_
  refine aw_seq [(.iconst (-1), 1, (axI (-1))), (.istore_n 1, 1, ax0), (.iconst 0, 1, (axI 0)), (.istore_n 2, 1, ax0), (.iconst 0, 1, (axI 0)), (.istore_n 3, 1, ax0)] (pc' := 10) (L' := [some (aR 12 0 0), some (aI (-1)), some (aI 0), some (aI 0), none]) (stk' := []) (σ' := σ5) (g := []) (by decide +kernel) rfl rfl ?_
  refine aw_forget (L' := [some (aR 12 0 0), some (aI (-1)), some (aI 0), some (aI 0), none]) (lsub_s (lsub_s (lsub_s (lsub_s (lsub_n (lsub_0)))))) ?_
  exact ok_X12_whom_10 FU (-1) 0 0 σ5 _ h
def f_X12_bid_18    (σ : Sg) : Option (Int32 × Sg) :=
  some (0, σ)
set_option maxRecDepth 100000 in
set_option maxHeartbeats 4000000 in
theorem ok_X12_bid_18 {κ : Kd}    : ∀  (σ : Sg) (q : (Int32 × Sg)), f_X12_bid_18  σ = some q → AW κ pX12_bid 3 (some (aI q.1), q.2) 18 [none, none, none] [] σ := by
  intro  σ q h
  unfold f_X12_bid_18 at h
  refine aw_seq [(.iconst 0, 1, (axI 0))] (pc' := 19) (L' := [none, none, none]) (stk' := [aI 0]) (σ' := σ) (g := []) (by decide +kernel) rfl rfl ?_
  cases h
  exact aw_zret rfl bz_0 (by decide +kernel)
def f_X12_bid (v1 : Int32) (v2 : Int32) (σ : Sg) : Option (Int32 × Sg) :=
  bnd (f_X12_isHouse v1 σ) fun r3 σ2 =>
  if r3 = 0 then (
    f_X12_bid_18 σ2
  ) else (
    bnd (f_X12_isIn v2 0 99 σ2) fun r6 σ5 =>
    if r6 = 0 then (
      f_X12_bid_18 σ5
    ) else (
      grd (inb (162 + v1) 1986 && true) <|
      ltσ (wI σ5 1 (ix (162 + v1)) v2) fun σ7 =>
      some (1, σ7)
    )
  )
set_option maxRecDepth 100000 in
set_option maxHeartbeats 4000000 in
theorem ok_X12_bid {κ : Kd} {v1 : Int32} {v2 : Int32} {σ : Sg} {q : (Int32 × Sg)} (h : f_X12_bid v1 v2 σ = some q) : AMet κ pX12_bid 3 [aR 12 0 0, aI v1, aI v2] σ (some (aI q.1), q.2) := by
  unfold f_X12_bid at h
  refine amet_of okp_X12_bid [(false, aR 12 0 0), (false, aI v1), (false, aI v2)] (List.forall_mem_cons.mpr ⟨rfl, List.forall_mem_cons.mpr ⟨rfl, List.forall_mem_cons.mpr ⟨rfl, (fun _ hn => absurd hn List.not_mem_nil)⟩⟩⟩) 0 rfl ?_
  show AW κ pX12_bid 3 (some (aI q.1), q.2) 0 [some (aR 12 0 0), some (aI v1), some (aI v2)] [] σ
  refine aw_seq [(.aload_n 0, 1, ax0), (.iload_n 1, 1, ax0)] (pc' := 2) (L' := [some (aR 12 0 0), some (aI v1), some (aI v2)]) (stk' := [aI v1, aR 12 0 0]) (σ' := σ) (g := []) (by decide +kernel) rfl rfl ?_
  obtain ⟨r3, σ2, h1, h⟩ := bnd_some h
  refine aw_cV (P' := pX12_isHouse) (idx := 88) (d' := 2) (c := 12) (n := 0) (k := 0) [aI v1] [] (ov := (some (aI r3))) (stk2 := [aI r3]) okp_X12_isHouse (by decide +kernel) ml_RX12_88 vok_X12_isHouse (by decide) rfl nar_X12_isHouse (by decide) rfl (Nat.le_of_ble_eq_true rfl) (ok_X12_isHouse h1) rfl ?_
  refine aw_if_eq (off := 13) (tgt := 18) (by decide +kernel) (by decide) (fun c1 => ?_) (fun c1 => ?_)
  · rw [if_pos c1] at h
    refine aw_forget (L' := [none, none, none]) (lsub_n (lsub_n (lsub_n (lsub_0)))) ?_
    exact ok_X12_bid_18 σ2 _ h
  · rw [if_neg c1] at h
    refine aw_seq [(.iload_n 2, 1, ax0), (.iconst 0, 1, (axI 0)), (.bipush 99, 2, (axI 99))] (pc' := 12) (L' := [some (aR 12 0 0), some (aI v1), some (aI v2)]) (stk' := [aI 99, aI 0, aI v2]) (σ' := σ2) (g := []) (by decide +kernel) rfl rfl ?_
    obtain ⟨r6, σ5, h4, h⟩ := bnd_some h
    refine aw_cS (P' := pX12_isIn) (idx := 69) (d' := 1) [aI v2, aI 0, aI 99] [] (ov := (some (aI r6))) (stk2 := [aI r6]) okp_X12_isIn (by decide +kernel) ml_RX12_69 tok_X12_isIn nar_X12_isIn (by decide) rfl (Nat.le_of_ble_eq_true rfl) (ok_X12_isIn h4) rfl ?_
    refine aw_if_ne (off := 5) (tgt := 20) (by decide +kernel) (by decide) (fun c1 => ?_) (fun c1 => ?_)
    · rw [if_neg c1] at h
      obtain ⟨hg, h⟩ := grd_some h
      obtain ⟨σ7, e8, h⟩ := ltσ_some h
      refine aw_seq [(.aload_n 0, 1, ax0), (.getfield 7, 3, (axF 12 0 (2, 1, 13, some 1986))), (.sipush 162, 3, (axI 162)), (.iload_n 1, 1, ax0), (.iadd, 1, ax0), (.iload_n 2, 1, ax0), (.iastore, 1, ax0)] (pc' := 31) (L' := [some (aR 12 0 0), some (aI v1), some (aI v2)]) (stk' := []) (σ' := σ7) (g := [inb (162 + v1) 1986]) (by decide +kernel) (by rw [e8]; rfl) hg ?_
      refine aw_seq [(.iconst 1, 1, (axI 1))] (pc' := 32) (L' := [some (aR 12 0 0), some (aI v1), some (aI v2)]) (stk' := [aI 1]) (σ' := σ7) (g := []) (by decide +kernel) rfl rfl ?_
      cases h
      exact aw_zret rfl bz_1 (by decide +kernel)
    · rw [if_pos c1] at h
      refine aw_forget (L' := [none, none, none]) (lsub_n (lsub_n (lsub_n (lsub_0)))) ?_
      exact ok_X12_bid_18 σ5 _ h
def f_X12_ahead_71  (rec_4 : Int32 → Int32 → Int32 → Sg → Option (Int32 × Sg)) (v1 : Int32) (v3 : Int32) (s0 : Int32) (s1 : Int32) (σ : Sg) : Option (Int32 × Sg) :=
  rec_4 v1 (s0 + s1) (v3 + 1) σ
set_option maxRecDepth 100000 in
set_option maxHeartbeats 4000000 in
theorem ok_X12_ahead_71 {κ : Kd}   {rec_4 : Int32 → Int32 → Int32 → Sg → Option (Int32 × Sg)} (hrec_4 : ∀ (v1 : Int32) (v2 : Int32) (v3 : Int32) (σ : Sg) (q : (Int32 × Sg)), rec_4 v1 v2 v3 σ = some q → AW κ pX12_ahead 1 (some (aI q.1), q.2) 4 [some (aR 12 0 0), some (aI v1), some (aI v2), some (aI v3)] [] σ) : ∀ (v1 : Int32) (v3 : Int32) (s0 : Int32) (s1 : Int32) (σ : Sg) (q : (Int32 × Sg)), f_X12_ahead_71 rec_4 v1 v3 s0 s1 σ = some q → AW κ pX12_ahead 1 (some (aI q.1), q.2) 71 [some (aR 12 0 0), some (aI v1), none, some (aI v3)] [aI s1, aI s0] σ := by
  intro v1 v3 s0 s1 σ q h
  unfold f_X12_ahead_71 at h
  refine aw_seq [(.iadd, 1, ax0), (.istore_n 2, 1, ax0), (.iinc 3 1, 3, (axI 1))] (pc' := 76) (L' := [some (aR 12 0 0), some (aI v1), some (aI (s0 + s1)), some (aI (v3 + 1))]) (stk' := []) (σ' := σ) (g := []) (by decide +kernel) rfl rfl ?_
  refine aw_goto (off := (-72)) (tgt := 4) (by decide +kernel) (by decide) ?_
  refine aw_forget (L' := [some (aR 12 0 0), some (aI v1), some (aI (s0 + s1)), some (aI (v3 + 1))]) (lsub_s (lsub_s (lsub_s (lsub_s (lsub_0))))) ?_
  exact hrec_4 v1 (s0 + s1) (v3 + 1) σ _ h
def f_X12_ahead_66  (rec_4 : Int32 → Int32 → Int32 → Sg → Option (Int32 × Sg)) (v1 : Int32) (v3 : Int32) (s0 : Int32) (σ : Sg) : Option (Int32 × Sg) :=
  f_X12_ahead_71 rec_4 v1 v3 s0 1 σ
set_option maxRecDepth 100000 in
set_option maxHeartbeats 4000000 in
theorem ok_X12_ahead_66 {κ : Kd}   {rec_4 : Int32 → Int32 → Int32 → Sg → Option (Int32 × Sg)} (hrec_4 : ∀ (v1 : Int32) (v2 : Int32) (v3 : Int32) (σ : Sg) (q : (Int32 × Sg)), rec_4 v1 v2 v3 σ = some q → AW κ pX12_ahead 1 (some (aI q.1), q.2) 4 [some (aR 12 0 0), some (aI v1), some (aI v2), some (aI v3)] [] σ) : ∀ (v1 : Int32) (v3 : Int32) (s0 : Int32) (σ : Sg) (q : (Int32 × Sg)), f_X12_ahead_66 rec_4 v1 v3 s0 σ = some q → AW κ pX12_ahead 1 (some (aI q.1), q.2) 66 [some (aR 12 0 0), some (aI v1), none, some (aI v3)] [aI s0] σ := by
  intro v1 v3 s0 σ q h
  unfold f_X12_ahead_66 at h
  refine aw_seq [(.iconst 1, 1, (axI 1))] (pc' := 67) (L' := [some (aR 12 0 0), some (aI v1), none, some (aI v3)]) (stk' := [aI 1, aI s0]) (σ' := σ) (g := []) (by decide +kernel) rfl rfl ?_
  refine aw_goto (off := 4) (tgt := 71) (by decide +kernel) (by decide) ?_
  refine aw_forget (L' := [some (aR 12 0 0), some (aI v1), none, some (aI v3)]) (lsub_s (lsub_s (lsub_n (lsub_s (lsub_0))))) ?_
  exact ok_X12_ahead_71 hrec_4 v1 v3 s0 1 σ _ h
def f_X12_ahead_70  (rec_4 : Int32 → Int32 → Int32 → Sg → Option (Int32 × Sg)) (v1 : Int32) (v3 : Int32) (s0 : Int32) (σ : Sg) : Option (Int32 × Sg) :=
  f_X12_ahead_71 rec_4 v1 v3 s0 0 σ
set_option maxRecDepth 100000 in
set_option maxHeartbeats 4000000 in
theorem ok_X12_ahead_70 {κ : Kd}   {rec_4 : Int32 → Int32 → Int32 → Sg → Option (Int32 × Sg)} (hrec_4 : ∀ (v1 : Int32) (v2 : Int32) (v3 : Int32) (σ : Sg) (q : (Int32 × Sg)), rec_4 v1 v2 v3 σ = some q → AW κ pX12_ahead 1 (some (aI q.1), q.2) 4 [some (aR 12 0 0), some (aI v1), some (aI v2), some (aI v3)] [] σ) : ∀ (v1 : Int32) (v3 : Int32) (s0 : Int32) (σ : Sg) (q : (Int32 × Sg)), f_X12_ahead_70 rec_4 v1 v3 s0 σ = some q → AW κ pX12_ahead 1 (some (aI q.1), q.2) 70 [some (aR 12 0 0), some (aI v1), none, some (aI v3)] [aI s0] σ := by
  intro v1 v3 s0 σ q h
  unfold f_X12_ahead_70 at h
  refine aw_seq [(.iconst 0, 1, (axI 0))] (pc' := 71) (L' := [some (aR 12 0 0), some (aI v1), none, some (aI v3)]) (stk' := [aI 0, aI s0]) (σ' := σ) (g := []) (by decide +kernel) rfl rfl ?_
  refine aw_forget (L' := [some (aR 12 0 0), some (aI v1), none, some (aI v3)]) (lsub_s (lsub_s (lsub_n (lsub_s (lsub_0))))) ?_
  exact ok_X12_ahead_71 hrec_4 v1 v3 s0 0 σ _ h
def f_X12_ahead_4   : Nat → Int32 → Int32 → Int32 → Sg → Option (Int32 × Sg)
  | 0, _, _, _, _ => none
  | fu + 1, v1, v2, v3, σ =>
    grd (inb 0 1986 && true) <|
    if (σ.1 1 (ix 0)) ≤ v3 then (
      some (v2, σ)
    ) else (
      grd (inb (162 + v3) 1986 && (inb (162 + v1) 1986 && true)) <|
      if (σ.1 1 (ix (162 + v1))) < (σ.1 1 (ix (162 + v3))) then (
        f_X12_ahead_66 (f_X12_ahead_4 fu) v1 v3 v2 σ
      ) else (
        grd (inb (162 + v3) 1986 && (inb (162 + v1) 1986 && true)) <|
        if (σ.1 1 (ix (162 + v3))) = (σ.1 1 (ix (162 + v1))) then (
          if v1 ≤ v3 then (
            f_X12_ahead_70 (f_X12_ahead_4 fu) v1 v3 v2 σ
          ) else (
            f_X12_ahead_66 (f_X12_ahead_4 fu) v1 v3 v2 σ
          )
        ) else (
          f_X12_ahead_70 (f_X12_ahead_4 fu) v1 v3 v2 σ
        )
      )
    )
set_option maxRecDepth 100000 in
set_option maxHeartbeats 4000000 in
theorem ok_X12_ahead_4 {κ : Kd}    : ∀ (fu : Nat) (v1 : Int32) (v2 : Int32) (v3 : Int32) (σ : Sg) (q : (Int32 × Sg)), f_X12_ahead_4 fu v1 v2 v3 σ = some q → AW κ pX12_ahead 1 (some (aI q.1), q.2) 4 [some (aR 12 0 0), some (aI v1), some (aI v2), some (aI v3)] [] σ := by
  intro fu
  induction fu with
  | zero =>
    intro v1 v2 v3 σ q h
    unfold f_X12_ahead_4 at h
    cases h
  | succ fu ih =>
    intro v1 v2 v3 σ q h
    unfold f_X12_ahead_4 at h
    obtain ⟨hg, h⟩ := grd_some h
    refine aw_seq [(.iload_n 3, 1, ax0), (.aload_n 0, 1, ax0), (.getfield 7, 3, (axF 12 0 (2, 1, 13, some 1986))), (.iconst 0, 1, (axI 0)), (.iaload, 1, ax0)] (pc' := 11) (L' := [some (aR 12 0 0), some (aI v1), some (aI v2), some (aI v3)]) (stk' := [aI (σ.1 1 (ix 0)), aI v3]) (σ' := σ) (g := [inb 0 1986]) (by decide +kernel) rfl hg ?_
    refine aw_icmp_ge (off := 68) (tgt := 79) (by decide +kernel) (by decide) (fun c1 => ?_) (fun c1 => ?_)
    · rw [if_pos c1] at h
      refine aw_seq [(.iload_n 2, 1, ax0)] (pc' := 80) (L' := [some (aR 12 0 0), some (aI v1), some (aI v2), some (aI v3)]) (stk' := [aI v2]) (σ' := σ) (g := []) (by decide +kernel) rfl rfl ?_
      cases h
      exact aw_iret rfl (by decide +kernel)
    · rw [if_neg c1] at h
      obtain ⟨hg, h⟩ := grd_some h
      refine aw_seq [(.iload_n 2, 1, ax0), (.aload_n 0, 1, ax0), (.getfield 7, 3, (axF 12 0 (2, 1, 13, some 1986))), (.sipush 162, 3, (axI 162)), (.iload_n 3, 1, ax0), (.iadd, 1, ax0), (.iaload, 1, ax0), (.aload_n 0, 1, ax0), (.getfield 7, 3, (axF 12 0 (2, 1, 13, some 1986))), (.sipush 162, 3, (axI 162)), (.iload_n 1, 1, ax0), (.iadd, 1, ax0), (.iaload, 1, ax0)] (pc' := 35) (L' := [some (aR 12 0 0), some (aI v1), some (aI v2), some (aI v3)]) (stk' := [aI (σ.1 1 (ix (162 + v1))), aI (σ.1 1 (ix (162 + v3))), aI v2]) (σ' := σ) (g := [inb (162 + v3) 1986, inb (162 + v1) 1986]) (by decide +kernel) rfl hg ?_
      refine aw_icmp_gt (off := 31) (tgt := 66) (by decide +kernel) (by decide) (fun c1 => ?_) (fun c1 => ?_)
      · rw [if_pos c1] at h
        refine aw_forget (L' := [some (aR 12 0 0), some (aI v1), none, some (aI v3)]) (lsub_s (lsub_s (lsub_n (lsub_s (lsub_0))))) ?_
        exact ok_X12_ahead_66 ih v1 v3 v2 σ _ h
      · rw [if_neg c1] at h
        obtain ⟨hg, h⟩ := grd_some h
        refine aw_seq [(.aload_n 0, 1, ax0), (.getfield 7, 3, (axF 12 0 (2, 1, 13, some 1986))), (.sipush 162, 3, (axI 162)), (.iload_n 3, 1, ax0), (.iadd, 1, ax0), (.iaload, 1, ax0), (.aload_n 0, 1, ax0), (.getfield 7, 3, (axF 12 0 (2, 1, 13, some 1986))), (.sipush 162, 3, (axI 162)), (.iload_n 1, 1, ax0), (.iadd, 1, ax0), (.iaload, 1, ax0)] (pc' := 58) (L' := [some (aR 12 0 0), some (aI v1), some (aI v2), some (aI v3)]) (stk' := [aI (σ.1 1 (ix (162 + v1))), aI (σ.1 1 (ix (162 + v3))), aI v2]) (σ' := σ) (g := [inb (162 + v3) 1986, inb (162 + v1) 1986]) (by decide +kernel) rfl hg ?_
        refine aw_icmp_ne (off := 12) (tgt := 70) (by decide +kernel) (by decide) (fun c1 => ?_) (fun c1 => ?_)
        · rw [if_neg c1] at h
          refine aw_forget (L' := [some (aR 12 0 0), some (aI v1), none, some (aI v3)]) (lsub_s (lsub_s (lsub_n (lsub_s (lsub_0))))) ?_
          exact ok_X12_ahead_70 ih v1 v3 v2 σ _ h
        · rw [if_pos c1] at h
          refine aw_seq [(.iload_n 3, 1, ax0), (.iload_n 1, 1, ax0)] (pc' := 63) (L' := [some (aR 12 0 0), some (aI v1), some (aI v2), some (aI v3)]) (stk' := [aI v1, aI v3, aI v2]) (σ' := σ) (g := []) (by decide +kernel) rfl rfl ?_
          refine aw_icmp_ge (off := 7) (tgt := 70) (by decide +kernel) (by decide) (fun c1 => ?_) (fun c1 => ?_)
          · rw [if_pos c1] at h
            refine aw_forget (L' := [some (aR 12 0 0), some (aI v1), none, some (aI v3)]) (lsub_s (lsub_s (lsub_n (lsub_s (lsub_0))))) ?_
            exact ok_X12_ahead_70 ih v1 v3 v2 σ _ h
          · rw [if_neg c1] at h
            refine aw_forget (L' := [some (aR 12 0 0), some (aI v1), none, some (aI v3)]) (lsub_s (lsub_s (lsub_n (lsub_s (lsub_0))))) ?_
            exact ok_X12_ahead_66 ih v1 v3 v2 σ _ h
def f_X12_ahead (v1 : Int32) (σ : Sg) : Option (Int32 × Sg) :=
  f_X12_ahead_4 FU v1 0 0 σ
set_option maxRecDepth 100000 in
set_option maxHeartbeats 4000000 in
theorem ok_X12_ahead {κ : Kd} {v1 : Int32} {σ : Sg} {q : (Int32 × Sg)} (h : f_X12_ahead v1 σ = some q) : AMet κ pX12_ahead 1 [aR 12 0 0, aI v1] σ (some (aI q.1), q.2) := by
  unfold f_X12_ahead at h
  refine amet_of okp_X12_ahead [(false, aR 12 0 0), (false, aI v1)] (List.forall_mem_cons.mpr ⟨rfl, List.forall_mem_cons.mpr ⟨rfl, (fun _ hn => absurd hn List.not_mem_nil)⟩⟩) 2 rfl ?_
  show AW κ pX12_ahead 1 (some (aI q.1), q.2) 0 [some (aR 12 0 0), some (aI v1), none, none] [] σ
  refine aw_seq [(.iconst 0, 1, (axI 0)), (.istore_n 2, 1, ax0), (.iconst 0, 1, (axI 0)), (.istore_n 3, 1, ax0)] (pc' := 4) (L' := [some (aR 12 0 0), some (aI v1), some (aI 0), some (aI 0)]) (stk' := []) (σ' := σ) (g := []) (by decide +kernel) rfl rfl ?_
  refine aw_forget (L' := [some (aR 12 0 0), some (aI v1), some (aI 0), some (aI 0)]) (lsub_s (lsub_s (lsub_s (lsub_s (lsub_0))))) ?_
  exact ok_X12_ahead_4 FU v1 0 0 σ _ h
def f_X12_leave_75  (rec_20 : Int32 → Int32 → Int32 → Int32 → Int32 → Sg → Option (Int32 × Sg)) (v1 : Int32) (v2 : Int32) (v3 : Int32) (v4 : Int32) (v5 : Int32) (σ : Sg) : Option (Int32 × Sg) :=
  rec_20 v1 v2 v3 v4 (v5 + 1) σ
set_option maxRecDepth 100000 in
set_option maxHeartbeats 4000000 in
theorem ok_X12_leave_75 {κ : Kd}   {rec_20 : Int32 → Int32 → Int32 → Int32 → Int32 → Sg → Option (Int32 × Sg)} (hrec_20 : ∀ (v1 : Int32) (v2 : Int32) (v3 : Int32) (v4 : Int32) (v5 : Int32) (σ : Sg) (q : (Int32 × Sg)), rec_20 v1 v2 v3 v4 v5 σ = some q → AW κ pX12_leave 2 (some (aI q.1), q.2) 20 [some (aR 12 0 0), some (aI v1), some (aI v2), some (aI v3), some (aI v4), some (aI v5)] [] σ) : ∀ (v1 : Int32) (v2 : Int32) (v3 : Int32) (v4 : Int32) (v5 : Int32) (σ : Sg) (q : (Int32 × Sg)), f_X12_leave_75 rec_20 v1 v2 v3 v4 v5 σ = some q → AW κ pX12_leave 2 (some (aI q.1), q.2) 75 [some (aR 12 0 0), some (aI v1), some (aI v2), some (aI v3), some (aI v4), some (aI v5)] [] σ := by
  intro v1 v2 v3 v4 v5 σ q h
  unfold f_X12_leave_75 at h
  refine aw_seq [(.iinc 5 1, 3, (axI 1))] (pc' := 78) (L' := [some (aR 12 0 0), some (aI v1), some (aI v2), some (aI v3), some (aI v4), some (aI (v5 + 1))]) (stk' := []) (σ' := σ) (g := []) (by decide +kernel) rfl rfl ?_
  refine aw_goto (off := (-58)) (tgt := 20) (by decide +kernel) (by decide) ?_
  refine aw_forget (L' := [some (aR 12 0 0), some (aI v1), some (aI v2), some (aI v3), some (aI v4), some (aI (v5 + 1))]) (lsub_s (lsub_s (lsub_s (lsub_s (lsub_s (lsub_s (lsub_0))))))) ?_
  exact hrec_20 v1 v2 v3 v4 (v5 + 1) σ _ h
def f_X12_leave_50  (rec_20 : Int32 → Int32 → Int32 → Int32 → Int32 → Sg → Option (Int32 × Sg)) (v1 : Int32) (v2 : Int32) (v4 : Int32) (v5 : Int32) (s0 : Int32) (s1 : Int32) (σ : Sg) : Option (Int32 × Sg) :=
  bnd (f_X12_ahead v5 σ) fun r3 σ2 =>
  if r3 = v1 then (
    grd (inb (162 + v5) 1986 && true) <|
    f_X12_leave_75 rec_20 v1 v2 (s0 ||| s1) (σ2.1 1 (ix (162 + v5))) v5 σ2
  ) else (
    f_X12_leave_75 rec_20 v1 v2 (s0 ||| s1) v4 v5 σ2
  )
set_option maxRecDepth 100000 in
set_option maxHeartbeats 4000000 in
theorem ok_X12_leave_50 {κ : Kd}   {rec_20 : Int32 → Int32 → Int32 → Int32 → Int32 → Sg → Option (Int32 × Sg)} (hrec_20 : ∀ (v1 : Int32) (v2 : Int32) (v3 : Int32) (v4 : Int32) (v5 : Int32) (σ : Sg) (q : (Int32 × Sg)), rec_20 v1 v2 v3 v4 v5 σ = some q → AW κ pX12_leave 2 (some (aI q.1), q.2) 20 [some (aR 12 0 0), some (aI v1), some (aI v2), some (aI v3), some (aI v4), some (aI v5)] [] σ) : ∀ (v1 : Int32) (v2 : Int32) (v4 : Int32) (v5 : Int32) (s0 : Int32) (s1 : Int32) (σ : Sg) (q : (Int32 × Sg)), f_X12_leave_50 rec_20 v1 v2 v4 v5 s0 s1 σ = some q → AW κ pX12_leave 2 (some (aI q.1), q.2) 50 [some (aR 12 0 0), some (aI v1), some (aI v2), none, some (aI v4), some (aI v5)] [aI s1, aI s0] σ := by
  intro v1 v2 v4 v5 s0 s1 σ q h
  unfold f_X12_leave_50 at h
  refine aw_seq [(.ior, 1, ax0), (.istore_n 3, 1, ax0), (.aload_n 0, 1, ax0), (.iload 5, 2, ax0)] (pc' := 55) (L' := [some (aR 12 0 0), some (aI v1), some (aI v2), some (aI (s0 ||| s1)), some (aI v4), some (aI v5)]) (stk' := [aI v5, aR 12 0 0]) (σ' := σ) (g := []) (by decide +kernel) rfl rfl ?_
  obtain ⟨r3, σ2, h1, h⟩ := bnd_some h
  refine aw_cV (P' := pX12_ahead) (idx := 470) (d' := 1) (c := 12) (n := 0) (k := 0) [aI v5] [] (ov := (some (aI r3))) (stk2 := [aI r3]) okp_X12_ahead (by decide +kernel) ml_RX12_470 vok_X12_ahead (by decide) rfl nar_X12_ahead (by decide) rfl (Nat.le_of_ble_eq_true rfl) (ok_X12_ahead h1) rfl ?_
  refine aw_seq [(.iload_n 1, 1, ax0)] (pc' := 59) (L' := [some (aR 12 0 0), some (aI v1), some (aI v2), some (aI (s0 ||| s1)), some (aI v4), some (aI v5)]) (stk' := [aI v1, aI r3]) (σ' := σ2) (g := []) (by decide +kernel) rfl rfl ?_
  refine aw_icmp_ne (off := 16) (tgt := 75) (by decide +kernel) (by decide) (fun c1 => ?_) (fun c1 => ?_)
  · rw [if_neg c1] at h
    refine aw_forget (L' := [some (aR 12 0 0), some (aI v1), some (aI v2), some (aI (s0 ||| s1)), some (aI v4), some (aI v5)]) (lsub_s (lsub_s (lsub_s (lsub_s (lsub_s (lsub_s (lsub_0))))))) ?_
    exact ok_X12_leave_75 hrec_20 v1 v2 (s0 ||| s1) v4 v5 σ2 _ h
  · rw [if_pos c1] at h
    obtain ⟨hg, h⟩ := grd_some h
    refine aw_seq [(.aload_n 0, 1, ax0), (.getfield 7, 3, (axF 12 0 (2, 1, 13, some 1986))), (.sipush 162, 3, (axI 162)), (.iload 5, 2, ax0), (.iadd, 1, ax0), (.iaload, 1, ax0), (.istore 4, 2, ax0)] (pc' := 75) (L' := [some (aR 12 0 0), some (aI v1), some (aI v2), some (aI (s0 ||| s1)), some (aI (σ2.1 1 (ix (162 + v5)))), some (aI v5)]) (stk' := []) (σ' := σ2) (g := [inb (162 + v5) 1986]) (by decide +kernel) rfl hg ?_
    refine aw_forget (L' := [some (aR 12 0 0), some (aI v1), some (aI v2), some (aI (s0 ||| s1)), some (aI (σ2.1 1 (ix (162 + v5)))), some (aI v5)]) (lsub_s (lsub_s (lsub_s (lsub_s (lsub_s (lsub_s (lsub_0))))))) ?_
    exact ok_X12_leave_75 hrec_20 v1 v2 (s0 ||| s1) (σ2.1 1 (ix (162 + v5))) v5 σ2 _ h
def f_X12_leave_91   (s0 : Int32) (σ : Sg) : Option (Int32 × Sg) :=
  some (s0, σ)
set_option maxRecDepth 100000 in
set_option maxHeartbeats 4000000 in
theorem ok_X12_leave_91 {κ : Kd}    : ∀ (s0 : Int32) (σ : Sg) (q : (Int32 × Sg)), f_X12_leave_91 s0 σ = some q → AW κ pX12_leave 2 (some (aI q.1), q.2) 91 [none, none, none, none, none, none] [aI s0] σ := by
  intro s0 σ q h
  unfold f_X12_leave_91 at h
  cases h
  exact aw_iret rfl (by decide +kernel)
def f_X12_leave_20   : Nat → Int32 → Int32 → Int32 → Int32 → Int32 → Sg → Option (Int32 × Sg)
  | 0, _, _, _, _, _, _ => none
  | fu + 1, v1, v2, v3, v4, v5, σ =>
    grd (inb 0 1986 && true) <|
    if (σ.1 1 (ix 0)) ≤ v5 then (
      if v2 = 0 then (
        f_X12_leave_91 v3 σ
      ) else (
        f_X12_leave_91 v4 σ
      )
    ) else (
      bnd (f_X12_ahead v5 σ) fun r6 σ5 =>
      if v1 ≤ r6 then (
        f_X12_leave_50 (f_X12_leave_20 fu) v1 v2 v4 v5 v3 0 σ5
      ) else (
        f_X12_leave_50 (f_X12_leave_20 fu) v1 v2 v4 v5 v3 (shl 1 v5) σ5
      )
    )
set_option maxRecDepth 100000 in
set_option maxHeartbeats 4000000 in
theorem ok_X12_leave_20 {κ : Kd}    : ∀ (fu : Nat) (v1 : Int32) (v2 : Int32) (v3 : Int32) (v4 : Int32) (v5 : Int32) (σ : Sg) (q : (Int32 × Sg)), f_X12_leave_20 fu v1 v2 v3 v4 v5 σ = some q → AW κ pX12_leave 2 (some (aI q.1), q.2) 20 [some (aR 12 0 0), some (aI v1), some (aI v2), some (aI v3), some (aI v4), some (aI v5)] [] σ := by
  intro fu
  induction fu with
  | zero =>
    intro v1 v2 v3 v4 v5 σ q h
    unfold f_X12_leave_20 at h
    cases h
  | succ fu ih =>
    intro v1 v2 v3 v4 v5 σ q h
    unfold f_X12_leave_20 at h
    obtain ⟨hg, h⟩ := grd_some h
    refine aw_seq [(.iload 5, 2, ax0), (.aload_n 0, 1, ax0), (.getfield 7, 3, (axF 12 0 (2, 1, 13, some 1986))), (.iconst 0, 1, (axI 0)), (.iaload, 1, ax0)] (pc' := 28) (L' := [some (aR 12 0 0), some (aI v1), some (aI v2), some (aI v3), some (aI v4), some (aI v5)]) (stk' := [aI (σ.1 1 (ix 0)), aI v5]) (σ' := σ) (g := [inb 0 1986]) (by decide +kernel) rfl hg ?_
    refine aw_icmp_ge (off := 53) (tgt := 81) (by decide +kernel) (by decide) (fun c1 => ?_) (fun c1 => ?_)
    · rw [if_pos c1] at h
      refine aw_seq [(.iload_n 2, 1, ax0)] (pc' := 82) (L' := [some (aR 12 0 0), some (aI v1), some (aI v2), some (aI v3), some (aI v4), some (aI v5)]) (stk' := [aI v2]) (σ' := σ) (g := []) (by decide +kernel) rfl rfl ?_
      refine aw_if_eq (off := 8) (tgt := 90) (by decide +kernel) (by decide) (fun c1 => ?_) (fun c1 => ?_)
      · rw [if_pos c1] at h
        refine aw_seq [(.iload_n 3, 1, ax0)] (pc' := 91) (L' := [some (aR 12 0 0), some (aI v1), some (aI v2), some (aI v3), some (aI v4), some (aI v5)]) (stk' := [aI v3]) (σ' := σ) (g := []) (by decide +kernel) rfl rfl ?_
        refine aw_forget (L' := [none, none, none, none, none, none]) (lsub_n (lsub_n (lsub_n (lsub_n (lsub_n (lsub_n (lsub_0))))))) ?_
        exact ok_X12_leave_91 v3 σ _ h
      · rw [if_neg c1] at h
        refine aw_seq [(.iload 4, 2, ax0)] (pc' := 87) (L' := [some (aR 12 0 0), some (aI v1), some (aI v2), some (aI v3), some (aI v4), some (aI v5)]) (stk' := [aI v4]) (σ' := σ) (g := []) (by decide +kernel) rfl rfl ?_
        refine aw_goto (off := 4) (tgt := 91) (by decide +kernel) (by decide) ?_
        refine aw_forget (L' := [none, none, none, none, none, none]) (lsub_n (lsub_n (lsub_n (lsub_n (lsub_n (lsub_n (lsub_0))))))) ?_
        exact ok_X12_leave_91 v4 σ _ h
    · rw [if_neg c1] at h
      refine aw_seq [(.iload_n 3, 1, ax0), (.aload_n 0, 1, ax0), (.iload 5, 2, ax0)] (pc' := 35) (L' := [some (aR 12 0 0), some (aI v1), some (aI v2), some (aI v3), some (aI v4), some (aI v5)]) (stk' := [aI v5, aR 12 0 0, aI v3]) (σ' := σ) (g := []) (by decide +kernel) rfl rfl ?_
      obtain ⟨r6, σ5, h4, h⟩ := bnd_some h
      refine aw_cV (P' := pX12_ahead) (idx := 470) (d' := 1) (c := 12) (n := 0) (k := 0) [aI v5] [aI v3] (ov := (some (aI r6))) (stk2 := [aI r6, aI v3]) okp_X12_ahead (by decide +kernel) ml_RX12_470 vok_X12_ahead (by decide) rfl nar_X12_ahead (by decide) rfl (Nat.le_of_ble_eq_true rfl) (ok_X12_ahead h4) rfl ?_
      refine aw_seq [(.iload_n 1, 1, ax0)] (pc' := 39) (L' := [some (aR 12 0 0), some (aI v1), some (aI v2), some (aI v3), some (aI v4), some (aI v5)]) (stk' := [aI v1, aI r6, aI v3]) (σ' := σ5) (g := []) (by decide +kernel) rfl rfl ?_
      refine aw_icmp_ge (off := 10) (tgt := 49) (by decide +kernel) (by decide) (fun c1 => ?_) (fun c1 => ?_)
      · rw [if_pos c1] at h
        refine aw_seq [(.iconst 0, 1, (axI 0))] (pc' := 50) (L' := [some (aR 12 0 0), some (aI v1), some (aI v2), some (aI v3), some (aI v4), some (aI v5)]) (stk' := [aI 0, aI v3]) (σ' := σ5) (g := []) (by decide +kernel) rfl rfl ?_
        refine aw_forget (L' := [some (aR 12 0 0), some (aI v1), some (aI v2), none, some (aI v4), some (aI v5)]) (lsub_s (lsub_s (lsub_s (lsub_n (lsub_s (lsub_s (lsub_0))))))) ?_
        exact ok_X12_leave_50 ih v1 v2 v4 v5 v3 0 σ5 _ h
      · rw [if_neg c1] at h
        refine aw_seq [(.iconst 1, 1, (axI 1)), (.iload 5, 2, ax0), (.ishl, 1, ax0)] (pc' := 46) (L' := [some (aR 12 0 0), some (aI v1), some (aI v2), some (aI v3), some (aI v4), some (aI v5)]) (stk' := [aI (shl 1 v5), aI v3]) (σ' := σ5) (g := []) (by decide +kernel) rfl rfl ?_
        refine aw_goto (off := 4) (tgt := 50) (by decide +kernel) (by decide) ?_
        refine aw_forget (L' := [some (aR 12 0 0), some (aI v1), some (aI v2), none, some (aI v4), some (aI v5)]) (lsub_s (lsub_s (lsub_s (lsub_n (lsub_s (lsub_s (lsub_0))))))) ?_
        exact ok_X12_leave_50 ih v1 v2 v4 v5 v3 (shl 1 v5) σ5 _ h
def f_X12_leave (v1 : Int32) (v2 : Int32) (σ : Sg) : Option (Int32 × Sg) :=
  bnd (f_X12_isIn v1 0 8 σ) fun r9 σ8 =>
  if r9 = 0 then (
    some ((-1), σ8)
  ) else (
    f_X12_leave_20 FU v1 v2 0 0 0 σ8
  )
set_option maxRecDepth 100000 in
set_option maxHeartbeats 4000000 in
theorem ok_X12_leave {κ : Kd} {v1 : Int32} {v2 : Int32} {σ : Sg} {q : (Int32 × Sg)} (h : f_X12_leave v1 v2 σ = some q) : AMet κ pX12_leave 2 [aR 12 0 0, aI v1, aI v2] σ (some (aI q.1), q.2) := by
  unfold f_X12_leave at h
  refine amet_of okp_X12_leave [(false, aR 12 0 0), (false, aI v1), (false, aI v2)] (List.forall_mem_cons.mpr ⟨rfl, List.forall_mem_cons.mpr ⟨rfl, List.forall_mem_cons.mpr ⟨rfl, (fun _ hn => absurd hn List.not_mem_nil)⟩⟩⟩) 3 rfl ?_
  show AW κ pX12_leave 2 (some (aI q.1), q.2) 0 [some (aR 12 0 0), some (aI v1), some (aI v2), none, none, none] [] σ
  refine aw_seq [(.iload_n 1, 1, ax0), (.iconst 0, 1, (axI 0)), (.bipush 8, 2, (axI 8))] (pc' := 4) (L' := [some (aR 12 0 0), some (aI v1), some (aI v2), none, none, none]) (stk' := [aI 8, aI 0, aI v1]) (σ' := σ) (g := []) (by decide +kernel) rfl rfl ?_
  obtain ⟨r9, σ8, h7, h⟩ := bnd_some h
  refine aw_cS (P' := pX12_isIn) (idx := 69) (d' := 1) [aI v1, aI 0, aI 8] [] (ov := (some (aI r9))) (stk2 := [aI r9]) okp_X12_isIn (by decide +kernel) ml_RX12_69 tok_X12_isIn nar_X12_isIn (by decide) rfl (Nat.le_of_ble_eq_true rfl) (ok_X12_isIn h7) rfl ?_
  refine aw_if_ne (off := 5) (tgt := 12) (by decide +kernel) (by decide) (fun c1 => ?_) (fun c1 => ?_)
  · rw [if_neg c1] at h
    refine aw_seq [(.iconst 0, 1, (axI 0)), (.istore_n 3, 1, ax0), (.iconst 0, 1, (axI 0)), (.istore 4, 2, ax0), (.iconst 0, 1, (axI 0)), (.istore 5, 2, ax0)] (pc' := 20) (L' := [some (aR 12 0 0), some (aI v1), some (aI v2), some (aI 0), some (aI 0), some (aI 0)]) (stk' := []) (σ' := σ8) (g := []) (by decide +kernel) rfl rfl ?_
    refine aw_forget (L' := [some (aR 12 0 0), some (aI v1), some (aI v2), some (aI 0), some (aI 0), some (aI 0)]) (lsub_s (lsub_s (lsub_s (lsub_s (lsub_s (lsub_s (lsub_0))))))) ?_
    exact ok_X12_leave_20 FU v1 v2 0 0 0 σ8 _ h
  · rw [if_pos c1] at h
    refine aw_seq [(.iconst (-1), 1, (axI (-1)))] (pc' := 11) (L' := [some (aR 12 0 0), some (aI v1), some (aI v2), none, none, none]) (stk' := [aI (-1)]) (σ' := σ8) (g := []) (by decide +kernel) rfl rfl ?_
    cases h
    exact aw_iret rfl (by decide +kernel)
def f_X12_cooled_43    (σ : Sg) : Option (Int32 × Sg) :=
  some ((-2), σ)
set_option maxRecDepth 100000 in
set_option maxHeartbeats 4000000 in
theorem ok_X12_cooled_43 {κ : Kd}    : ∀  (σ : Sg) (q : (Int32 × Sg)), f_X12_cooled_43  σ = some q → AW κ pX12_cooled 3 (some (aI q.1), q.2) 43 [none, none, none] [] σ := by
  intro  σ q h
  unfold f_X12_cooled_43 at h
  refine aw_seq [(.bipush (-2), 2, (axI (-2)))] (pc' := 45) (L' := [none, none, none]) (stk' := [aI (-2)]) (σ' := σ) (g := []) (by decide +kernel) rfl rfl ?_
  cases h
  exact aw_iret rfl (by decide +kernel)
def f_X12_cooled (v1 : Int32) (v2 : Int32) (σ : Sg) : Option (Int32 × Sg) :=
  if v1 = (-1) then (
    grd (inb 5 1986 && true) <|
    ltσ (wI σ 1 (ix 5) 0) fun σ13 =>
    some (0, σ13)
  ) else (
    bnd (f_X12_isHouse v1 σ) fun r3 σ2 =>
    if r3 = 0 then (
      f_X12_cooled_43 σ2
    ) else (
      bnd (f_X12_isIn v2 0 9 σ2) fun r6 σ5 =>
      if r6 = 0 then (
        f_X12_cooled_43 σ5
      ) else (
        grd (inb 5 1986 && true) <|
        if (σ5.1 1 (ix 5)) = 8 then (
          f_X12_cooled_43 σ5
        ) else (
          grd (inb 5 1986 && (inb (170 + (2 * (σ5.1 1 (ix 5)))) 1986 && true)) <|
          ltσ (wI σ5 1 (ix (170 + (2 * (σ5.1 1 (ix 5))))) v1) fun σ7 =>
          grd (inb 5 1986 && (inb ((170 + (2 * (σ7.1 1 (ix 5)))) + 1) 1986 && true)) <|
          ltσ (wI σ7 1 (ix ((170 + (2 * (σ7.1 1 (ix 5)))) + 1)) v2) fun σ9 =>
          grd (inb 5 1986 && (inb 5 1986 && true)) <|
          ltσ (wI σ9 1 (ix 5) ((σ9.1 1 (ix 5)) + 1)) fun σ11 =>
          grd (inb 5 1986 && true) <|
          some ((σ11.1 1 (ix 5)), σ11)
        )
      )
    )
  )
set_option maxRecDepth 100000 in
set_option maxHeartbeats 4000000 in
theorem ok_X12_cooled {κ : Kd} {v1 : Int32} {v2 : Int32} {σ : Sg} {q : (Int32 × Sg)} (h : f_X12_cooled v1 v2 σ = some q) : AMet κ pX12_cooled 3 [aR 12 0 0, aI v1, aI v2] σ (some (aI q.1), q.2) := by
  unfold f_X12_cooled at h
  refine amet_of okp_X12_cooled [(false, aR 12 0 0), (false, aI v1), (false, aI v2)] (List.forall_mem_cons.mpr ⟨rfl, List.forall_mem_cons.mpr ⟨rfl, List.forall_mem_cons.mpr ⟨rfl, (fun _ hn => absurd hn List.not_mem_nil)⟩⟩⟩) 0 rfl ?_
  show AW κ pX12_cooled 3 (some (aI q.1), q.2) 0 [some (aR 12 0 0), some (aI v1), some (aI v2)] [] σ
  refine aw_seq [(.iload_n 1, 1, ax0), (.iconst (-1), 1, (axI (-1)))] (pc' := 2) (L' := [some (aR 12 0 0), some (aI v1), some (aI v2)]) (stk' := [aI (-1), aI v1]) (σ' := σ) (g := []) (by decide +kernel) rfl rfl ?_
  refine aw_icmp_ne (off := 12) (tgt := 14) (by decide +kernel) (by decide) (fun c1 => ?_) (fun c1 => ?_)
  · rw [if_neg c1] at h
    refine aw_seq [(.aload_n 0, 1, ax0), (.iload_n 1, 1, ax0)] (pc' := 16) (L' := [some (aR 12 0 0), some (aI v1), some (aI v2)]) (stk' := [aI v1, aR 12 0 0]) (σ' := σ) (g := []) (by decide +kernel) rfl rfl ?_
    obtain ⟨r3, σ2, h1, h⟩ := bnd_some h
    refine aw_cV (P' := pX12_isHouse) (idx := 88) (d' := 2) (c := 12) (n := 0) (k := 0) [aI v1] [] (ov := (some (aI r3))) (stk2 := [aI r3]) okp_X12_isHouse (by decide +kernel) ml_RX12_88 vok_X12_isHouse (by decide) rfl nar_X12_isHouse (by decide) rfl (Nat.le_of_ble_eq_true rfl) (ok_X12_isHouse h1) rfl ?_
    refine aw_if_eq (off := 24) (tgt := 43) (by decide +kernel) (by decide) (fun c1 => ?_) (fun c1 => ?_)
    · rw [if_pos c1] at h
      refine aw_forget (L' := [none, none, none]) (lsub_n (lsub_n (lsub_n (lsub_0)))) ?_
      exact ok_X12_cooled_43 σ2 _ h
    · rw [if_neg c1] at h
      refine aw_seq [(.iload_n 2, 1, ax0), (.iconst 0, 1, (axI 0)), (.bipush 9, 2, (axI 9))] (pc' := 26) (L' := [some (aR 12 0 0), some (aI v1), some (aI v2)]) (stk' := [aI 9, aI 0, aI v2]) (σ' := σ2) (g := []) (by decide +kernel) rfl rfl ?_
      obtain ⟨r6, σ5, h4, h⟩ := bnd_some h
      refine aw_cS (P' := pX12_isIn) (idx := 69) (d' := 1) [aI v2, aI 0, aI 9] [] (ov := (some (aI r6))) (stk2 := [aI r6]) okp_X12_isIn (by decide +kernel) ml_RX12_69 tok_X12_isIn nar_X12_isIn (by decide) rfl (Nat.le_of_ble_eq_true rfl) (ok_X12_isIn h4) rfl ?_
      refine aw_if_eq (off := 14) (tgt := 43) (by decide +kernel) (by decide) (fun c1 => ?_) (fun c1 => ?_)
      · rw [if_pos c1] at h
        refine aw_forget (L' := [none, none, none]) (lsub_n (lsub_n (lsub_n (lsub_0)))) ?_
        exact ok_X12_cooled_43 σ5 _ h
      · rw [if_neg c1] at h
        obtain ⟨hg, h⟩ := grd_some h
        refine aw_seq [(.aload_n 0, 1, ax0), (.getfield 7, 3, (axF 12 0 (2, 1, 13, some 1986))), (.iconst 5, 1, (axI 5)), (.iaload, 1, ax0), (.bipush 8, 2, (axI 8))] (pc' := 40) (L' := [some (aR 12 0 0), some (aI v1), some (aI v2)]) (stk' := [aI 8, aI (σ5.1 1 (ix 5))]) (σ' := σ5) (g := [inb 5 1986]) (by decide +kernel) rfl hg ?_
        refine aw_icmp_ne (off := 6) (tgt := 46) (by decide +kernel) (by decide) (fun c1 => ?_) (fun c1 => ?_)
        · rw [if_neg c1] at h
          obtain ⟨hg, h⟩ := grd_some h
          obtain ⟨σ7, e8, h⟩ := ltσ_some h
          refine aw_seq [(.aload_n 0, 1, ax0), (.getfield 7, 3, (axF 12 0 (2, 1, 13, some 1986))), (.sipush 170, 3, (axI 170)), (.iconst 2, 1, (axI 2)), (.aload_n 0, 1, ax0), (.getfield 7, 3, (axF 12 0 (2, 1, 13, some 1986))), (.iconst 5, 1, (axI 5)), (.iaload, 1, ax0), (.imul, 1, ax0), (.iadd, 1, ax0), (.iload_n 1, 1, ax0), (.iastore, 1, ax0)] (pc' := 64) (L' := [some (aR 12 0 0), some (aI v1), some (aI v2)]) (stk' := []) (σ' := σ7) (g := [inb 5 1986, inb (170 + (2 * (σ5.1 1 (ix 5)))) 1986]) (by decide +kernel) (by rw [e8]; rfl) hg ?_
          obtain ⟨hg, h⟩ := grd_some h
          obtain ⟨σ9, e10, h⟩ := ltσ_some h
          refine aw_seq [(.aload_n 0, 1, ax0), (.getfield 7, 3, (axF 12 0 (2, 1, 13, some 1986))), (.sipush 170, 3, (axI 170)), (.iconst 2, 1, (axI 2)), (.aload_n 0, 1, ax0), (.getfield 7, 3, (axF 12 0 (2, 1, 13, some 1986))), (.iconst 5, 1, (axI 5)), (.iaload, 1, ax0), (.imul, 1, ax0), (.iadd, 1, ax0), (.iconst 1, 1, (axI 1)), (.iadd, 1, ax0), (.iload_n 2, 1, ax0), (.iastore, 1, ax0)] (pc' := 84) (L' := [some (aR 12 0 0), some (aI v1), some (aI v2)]) (stk' := []) (σ' := σ9) (g := [inb 5 1986, inb ((170 + (2 * (σ7.1 1 (ix 5)))) + 1) 1986]) (by decide +kernel) (by rw [e10]; rfl) hg ?_
          obtain ⟨hg, h⟩ := grd_some h
          obtain ⟨σ11, e12, h⟩ := ltσ_some h
          refine aw_seq [(.aload_n 0, 1, ax0), (.getfield 7, 3, (axF 12 0 (2, 1, 13, some 1986))), (.iconst 5, 1, (axI 5)), (.dup2, 1, ax0), (.iaload, 1, ax0), (.iconst 1, 1, (axI 1)), (.iadd, 1, ax0), (.iastore, 1, ax0)] (pc' := 94) (L' := [some (aR 12 0 0), some (aI v1), some (aI v2)]) (stk' := []) (σ' := σ11) (g := [inb 5 1986, inb 5 1986]) (by decide +kernel) (by rw [e12]; rfl) hg ?_
          obtain ⟨hg, h⟩ := grd_some h
          refine aw_seq [(.aload_n 0, 1, ax0), (.getfield 7, 3, (axF 12 0 (2, 1, 13, some 1986))), (.iconst 5, 1, (axI 5)), (.iaload, 1, ax0)] (pc' := 100) (L' := [some (aR 12 0 0), some (aI v1), some (aI v2)]) (stk' := [aI (σ11.1 1 (ix 5))]) (σ' := σ11) (g := [inb 5 1986]) (by decide +kernel) rfl hg ?_
          cases h
          exact aw_iret rfl (by decide +kernel)
        · rw [if_pos c1] at h
          refine aw_forget (L' := [none, none, none]) (lsub_n (lsub_n (lsub_n (lsub_0)))) ?_
          exact ok_X12_cooled_43 σ5 _ h
  · rw [if_pos c1] at h
    obtain ⟨hg, h⟩ := grd_some h
    obtain ⟨σ13, e14, h⟩ := ltσ_some h
    refine aw_seq [(.aload_n 0, 1, ax0), (.getfield 7, 3, (axF 12 0 (2, 1, 13, some 1986))), (.iconst 5, 1, (axI 5)), (.iconst 0, 1, (axI 0)), (.iastore, 1, ax0)] (pc' := 12) (L' := [some (aR 12 0 0), some (aI v1), some (aI v2)]) (stk' := []) (σ' := σ13) (g := [inb 5 1986]) (by decide +kernel) (by rw [e14]; rfl) hg ?_
    refine aw_seq [(.iconst 0, 1, (axI 0))] (pc' := 13) (L' := [some (aR 12 0 0), some (aI v1), some (aI v2)]) (stk' := [aI 0]) (σ' := σ13) (g := []) (by decide +kernel) rfl rfl ?_
    cases h
    exact aw_iret rfl (by decide +kernel)
def f_X12_whose_84  (rec_28 : Int32 → Int32 → Int32 → Int32 → Sg → Option (Int32 × Sg)) (v1 : Int32) (v2 : Int32) (v4 : Int32) (s0 : Int32) (σ : Sg) : Option (Int32 × Sg) :=
  rec_28 v1 v2 s0 (v4 + 1) σ
set_option maxRecDepth 100000 in
set_option maxHeartbeats 4000000 in
theorem ok_X12_whose_84 {κ : Kd}   {rec_28 : Int32 → Int32 → Int32 → Int32 → Sg → Option (Int32 × Sg)} (hrec_28 : ∀ (v1 : Int32) (v2 : Int32) (v3 : Int32) (v4 : Int32) (σ : Sg) (q : (Int32 × Sg)), rec_28 v1 v2 v3 v4 σ = some q → AW κ pX12_whose 6 (some (aI q.1), q.2) 28 [some (aR 12 0 0), some (aI v1), some (aI v2), some (aI v3), some (aI v4)] [] σ) : ∀ (v1 : Int32) (v2 : Int32) (v4 : Int32) (s0 : Int32) (σ : Sg) (q : (Int32 × Sg)), f_X12_whose_84 rec_28 v1 v2 v4 s0 σ = some q → AW κ pX12_whose 6 (some (aI q.1), q.2) 84 [some (aR 12 0 0), some (aI v1), some (aI v2), none, some (aI v4)] [aI s0] σ := by
  intro v1 v2 v4 s0 σ q h
  unfold f_X12_whose_84 at h
  refine aw_seq [(.istore_n 3, 1, ax0), (.iinc 4 1, 3, (axI 1))] (pc' := 88) (L' := [some (aR 12 0 0), some (aI v1), some (aI v2), some (aI s0), some (aI (v4 + 1))]) (stk' := []) (σ' := σ) (g := []) (by decide +kernel) rfl rfl ?_
  refine aw_goto (off := (-60)) (tgt := 28) (by decide +kernel) (by decide) ?_
  refine aw_forget (L' := [some (aR 12 0 0), some (aI v1), some (aI v2), some (aI s0), some (aI (v4 + 1))]) (lsub_s (lsub_s (lsub_s (lsub_s (lsub_s (lsub_0)))))) ?_
  exact hrec_28 v1 v2 s0 (v4 + 1) σ _ h
def f_X12_whose_83  (rec_28 : Int32 → Int32 → Int32 → Int32 → Sg → Option (Int32 × Sg)) (v1 : Int32) (v2 : Int32) (v4 : Int32) (σ : Sg) : Option (Int32 × Sg) :=
  f_X12_whose_84 rec_28 v1 v2 v4 0 σ
set_option maxRecDepth 100000 in
set_option maxHeartbeats 4000000 in
theorem ok_X12_whose_83 {κ : Kd}   {rec_28 : Int32 → Int32 → Int32 → Int32 → Sg → Option (Int32 × Sg)} (hrec_28 : ∀ (v1 : Int32) (v2 : Int32) (v3 : Int32) (v4 : Int32) (σ : Sg) (q : (Int32 × Sg)), rec_28 v1 v2 v3 v4 σ = some q → AW κ pX12_whose 6 (some (aI q.1), q.2) 28 [some (aR 12 0 0), some (aI v1), some (aI v2), some (aI v3), some (aI v4)] [] σ) : ∀ (v1 : Int32) (v2 : Int32) (v4 : Int32) (σ : Sg) (q : (Int32 × Sg)), f_X12_whose_83 rec_28 v1 v2 v4 σ = some q → AW κ pX12_whose 6 (some (aI q.1), q.2) 83 [some (aR 12 0 0), some (aI v1), some (aI v2), none, some (aI v4)] [] σ := by
  intro v1 v2 v4 σ q h
  unfold f_X12_whose_83 at h
  refine aw_seq [(.iconst 0, 1, (axI 0))] (pc' := 84) (L' := [some (aR 12 0 0), some (aI v1), some (aI v2), none, some (aI v4)]) (stk' := [aI 0]) (σ' := σ) (g := []) (by decide +kernel) rfl rfl ?_
  refine aw_forget (L' := [some (aR 12 0 0), some (aI v1), some (aI v2), none, some (aI v4)]) (lsub_s (lsub_s (lsub_s (lsub_n (lsub_s (lsub_0)))))) ?_
  exact ok_X12_whose_84 hrec_28 v1 v2 v4 0 σ _ h
def f_X12_whose_103  (rec_13 : Int32 → Int32 → Sg → Option (Int32 × Sg)) (v2 : Int32) (s0 : Int32) (s1 : Int32) (σ : Sg) : Option (Int32 × Sg) :=
  rec_13 (s0 ||| s1) (v2 + 1) σ
set_option maxRecDepth 100000 in
set_option maxHeartbeats 4000000 in
theorem ok_X12_whose_103 {κ : Kd}   {rec_13 : Int32 → Int32 → Sg → Option (Int32 × Sg)} (hrec_13 : ∀ (v1 : Int32) (v2 : Int32) (σ : Sg) (q : (Int32 × Sg)), rec_13 v1 v2 σ = some q → AW κ pX12_whose 6 (some (aI q.1), q.2) 13 [some (aR 12 0 0), some (aI v1), some (aI v2), none, none] [] σ) : ∀ (v2 : Int32) (s0 : Int32) (s1 : Int32) (σ : Sg) (q : (Int32 × Sg)), f_X12_whose_103 rec_13 v2 s0 s1 σ = some q → AW κ pX12_whose 6 (some (aI q.1), q.2) 103 [some (aR 12 0 0), none, some (aI v2), none, none] [aI s1, aI s0] σ := by
  intro v2 s0 s1 σ q h
  unfold f_X12_whose_103 at h
  refine aw_seq [(.ior, 1, ax0), (.istore_n 1, 1, ax0), (.iinc 2 1, 3, (axI 1))] (pc' := 108) (L' := [some (aR 12 0 0), some (aI (s0 ||| s1)), some (aI (v2 + 1)), none, none]) (stk' := []) (σ' := σ) (g := []) (by decide +kernel) rfl rfl ?_
  refine aw_goto (off := (-95)) (tgt := 13) (by decide +kernel) (by decide) ?_
  refine aw_forget (L' := [some (aR 12 0 0), some (aI (s0 ||| s1)), some (aI (v2 + 1)), none, none]) (lsub_s (lsub_s (lsub_s (lsub_n (lsub_n (lsub_0)))))) ?_
  exact hrec_13 (s0 ||| s1) (v2 + 1) σ _ h
def f_X12_whose_28  (rec_13 : Int32 → Int32 → Sg → Option (Int32 × Sg)) : Nat → Int32 → Int32 → Int32 → Int32 → Sg → Option (Int32 × Sg)
  | 0, _, _, _, _, _ => none
  | fu + 1, v1, v2, v3, v4, σ =>
    grd (inb 5 1986 && true) <|
    if (σ.1 1 (ix 5)) ≤ v4 then (
      if v3 = 0 then (
        f_X12_whose_103 rec_13 v2 v1 0 σ
      ) else (
        f_X12_whose_103 rec_13 v2 v1 (shl 1 v2) σ
      )
    ) else (
      if v3 = 0 then (
        f_X12_whose_83 (f_X12_whose_28 rec_13 fu) v1 v2 v4 σ
      ) else (
        grd (inb (170 + (2 * v4)) 1986 && true) <|
        bnd (f_X12_coolsOf v2 (σ.1 1 (ix (170 + (2 * v4)))) σ) fun r3 σ2 =>
        grd (inb ((170 + (2 * v4)) + 1) 1986 && true) <|
        if r3 = (σ2.1 1 (ix ((170 + (2 * v4)) + 1))) then (
          f_X12_whose_84 (f_X12_whose_28 rec_13 fu) v1 v2 v4 1 σ2
        ) else (
          f_X12_whose_83 (f_X12_whose_28 rec_13 fu) v1 v2 v4 σ2
        )
      )
    )
set_option maxRecDepth 100000 in
set_option maxHeartbeats 4000000 in
theorem ok_X12_whose_28 {κ : Kd}   {rec_13 : Int32 → Int32 → Sg → Option (Int32 × Sg)} (hrec_13 : ∀ (v1 : Int32) (v2 : Int32) (σ : Sg) (q : (Int32 × Sg)), rec_13 v1 v2 σ = some q → AW κ pX12_whose 6 (some (aI q.1), q.2) 13 [some (aR 12 0 0), some (aI v1), some (aI v2), none, none] [] σ) : ∀ (fu : Nat) (v1 : Int32) (v2 : Int32) (v3 : Int32) (v4 : Int32) (σ : Sg) (q : (Int32 × Sg)), f_X12_whose_28 rec_13 fu v1 v2 v3 v4 σ = some q → AW κ pX12_whose 6 (some (aI q.1), q.2) 28 [some (aR 12 0 0), some (aI v1), some (aI v2), some (aI v3), some (aI v4)] [] σ := by
  intro fu
  induction fu with
  | zero =>
    intro v1 v2 v3 v4 σ q h
    unfold f_X12_whose_28 at h
    cases h
  | succ fu ih =>
    intro v1 v2 v3 v4 σ q h
    unfold f_X12_whose_28 at h
    obtain ⟨hg, h⟩ := grd_some h
    refine aw_seq [(.iload 4, 2, ax0), (.aload_n 0, 1, ax0), (.getfield 7, 3, (axF 12 0 (2, 1, 13, some 1986))), (.iconst 5, 1, (axI 5)), (.iaload, 1, ax0)] (pc' := 36) (L' := [some (aR 12 0 0), some (aI v1), some (aI v2), some (aI v3), some (aI v4)]) (stk' := [aI (σ.1 1 (ix 5)), aI v4]) (σ' := σ) (g := [inb 5 1986]) (by decide +kernel) rfl hg ?_
    refine aw_icmp_ge (off := 55) (tgt := 91) (by decide +kernel) (by decide) (fun c1 => ?_) (fun c1 => ?_)
    · rw [if_pos c1] at h
      refine aw_seq [(.iload_n 1, 1, ax0), (.iload_n 3, 1, ax0)] (pc' := 93) (L' := [some (aR 12 0 0), some (aI v1), some (aI v2), some (aI v3), some (aI v4)]) (stk' := [aI v3, aI v1]) (σ' := σ) (g := []) (by decide +kernel) rfl rfl ?_
      refine aw_if_eq (off := 9) (tgt := 102) (by decide +kernel) (by decide) (fun c1 => ?_) (fun c1 => ?_)
      · rw [if_pos c1] at h
        refine aw_seq [(.iconst 0, 1, (axI 0))] (pc' := 103) (L' := [some (aR 12 0 0), some (aI v1), some (aI v2), some (aI v3), some (aI v4)]) (stk' := [aI 0, aI v1]) (σ' := σ) (g := []) (by decide +kernel) rfl rfl ?_
        refine aw_forget (L' := [some (aR 12 0 0), none, some (aI v2), none, none]) (lsub_s (lsub_n (lsub_s (lsub_n (lsub_n (lsub_0)))))) ?_
        exact ok_X12_whose_103 hrec_13 v2 v1 0 σ _ h
      · rw [if_neg c1] at h
        refine aw_seq [(.iconst 1, 1, (axI 1)), (.iload_n 2, 1, ax0), (.ishl, 1, ax0)] (pc' := 99) (L' := [some (aR 12 0 0), some (aI v1), some (aI v2), some (aI v3), some (aI v4)]) (stk' := [aI (shl 1 v2), aI v1]) (σ' := σ) (g := []) (by decide +kernel) rfl rfl ?_
        refine aw_goto (off := 4) (tgt := 103) (by decide +kernel) (by decide) ?_
        refine aw_forget (L' := [some (aR 12 0 0), none, some (aI v2), none, none]) (lsub_s (lsub_n (lsub_s (lsub_n (lsub_n (lsub_0)))))) ?_
        exact ok_X12_whose_103 hrec_13 v2 v1 (shl 1 v2) σ _ h
    · rw [if_neg c1] at h
      refine aw_seq [(.iload_n 3, 1, ax0)] (pc' := 40) (L' := [some (aR 12 0 0), some (aI v1), some (aI v2), some (aI v3), some (aI v4)]) (stk' := [aI v3]) (σ' := σ) (g := []) (by decide +kernel) rfl rfl ?_
      refine aw_if_eq (off := 43) (tgt := 83) (by decide +kernel) (by decide) (fun c1 => ?_) (fun c1 => ?_)
      · rw [if_pos c1] at h
        refine aw_forget (L' := [some (aR 12 0 0), some (aI v1), some (aI v2), none, some (aI v4)]) (lsub_s (lsub_s (lsub_s (lsub_n (lsub_s (lsub_0)))))) ?_
        exact ok_X12_whose_83 ih v1 v2 v4 σ _ h
      · rw [if_neg c1] at h
        obtain ⟨hg, h⟩ := grd_some h
        refine aw_seq [(.aload_n 0, 1, ax0), (.iload_n 2, 1, ax0), (.aload_n 0, 1, ax0), (.getfield 7, 3, (axF 12 0 (2, 1, 13, some 1986))), (.sipush 170, 3, (axI 170)), (.iconst 2, 1, (axI 2)), (.iload 4, 2, ax0), (.imul, 1, ax0), (.iadd, 1, ax0), (.iaload, 1, ax0)] (pc' := 58) (L' := [some (aR 12 0 0), some (aI v1), some (aI v2), some (aI v3), some (aI v4)]) (stk' := [aI (σ.1 1 (ix (170 + (2 * v4)))), aI v2, aR 12 0 0]) (σ' := σ) (g := [inb (170 + (2 * v4)) 1986]) (by decide +kernel) rfl hg ?_
        obtain ⟨r3, σ2, h1, h⟩ := bnd_some h
        refine aw_cV (P' := pX12_coolsOf) (idx := 325) (d' := 5) (c := 12) (n := 0) (k := 0) [aI v2, aI (σ.1 1 (ix (170 + (2 * v4))))] [] (ov := (some (aI r3))) (stk2 := [aI r3]) okp_X12_coolsOf (by decide +kernel) ml_RX12_325 vok_X12_coolsOf (by decide) rfl nar_X12_coolsOf (by decide) rfl (Nat.le_of_ble_eq_true rfl) (ok_X12_coolsOf h1) rfl ?_
        obtain ⟨hg, h⟩ := grd_some h
        refine aw_seq [(.aload_n 0, 1, ax0), (.getfield 7, 3, (axF 12 0 (2, 1, 13, some 1986))), (.sipush 170, 3, (axI 170)), (.iconst 2, 1, (axI 2)), (.iload 4, 2, ax0), (.imul, 1, ax0), (.iadd, 1, ax0), (.iconst 1, 1, (axI 1)), (.iadd, 1, ax0), (.iaload, 1, ax0)] (pc' := 76) (L' := [some (aR 12 0 0), some (aI v1), some (aI v2), some (aI v3), some (aI v4)]) (stk' := [aI (σ2.1 1 (ix ((170 + (2 * v4)) + 1))), aI r3]) (σ' := σ2) (g := [inb ((170 + (2 * v4)) + 1) 1986]) (by decide +kernel) rfl hg ?_
        refine aw_icmp_ne (off := 7) (tgt := 83) (by decide +kernel) (by decide) (fun c1 => ?_) (fun c1 => ?_)
        · rw [if_neg c1] at h
          refine aw_forget (L' := [some (aR 12 0 0), some (aI v1), some (aI v2), none, some (aI v4)]) (lsub_s (lsub_s (lsub_s (lsub_n (lsub_s (lsub_0)))))) ?_
          exact ok_X12_whose_83 ih v1 v2 v4 σ2 _ h
        · rw [if_pos c1] at h
          refine aw_seq [(.iconst 1, 1, (axI 1))] (pc' := 80) (L' := [some (aR 12 0 0), some (aI v1), some (aI v2), some (aI v3), some (aI v4)]) (stk' := [aI 1]) (σ' := σ2) (g := []) (by decide +kernel) rfl rfl ?_
          refine aw_goto (off := 4) (tgt := 84) (by decide +kernel) (by decide) ?_
          refine aw_forget (L' := [some (aR 12 0 0), some (aI v1), some (aI v2), none, some (aI v4)]) (lsub_s (lsub_s (lsub_s (lsub_n (lsub_s (lsub_0)))))) ?_
          exact ok_X12_whose_84 ih v1 v2 v4 1 σ2 _ h
def f_X12_whose_13   : Nat → Int32 → Int32 → Sg → Option (Int32 × Sg)
  | 0, _, _, _ => none
  | fu + 1, v1, v2, σ =>
    grd (inb 1 1986 && true) <|
    if (σ.1 1 (ix 1)) ≤ v2 then (
      some (v1, σ)
    ) else (
      f_X12_whose_28 (f_X12_whose_13 fu) FU v1 v2 1 0 σ
    )
set_option maxRecDepth 100000 in
set_option maxHeartbeats 4000000 in
theorem ok_X12_whose_13 {κ : Kd}    : ∀ (fu : Nat) (v1 : Int32) (v2 : Int32) (σ : Sg) (q : (Int32 × Sg)), f_X12_whose_13 fu v1 v2 σ = some q → AW κ pX12_whose 6 (some (aI q.1), q.2) 13 [some (aR 12 0 0), some (aI v1), some (aI v2), none, none] [] σ := by
  intro fu
  induction fu with
  | zero =>
    intro v1 v2 σ q h
    unfold f_X12_whose_13 at h
    cases h
  | succ fu ih =>
    intro v1 v2 σ q h
    unfold f_X12_whose_13 at h
    obtain ⟨hg, h⟩ := grd_some h
    refine aw_seq [(.iload_n 2, 1, ax0), (.aload_n 0, 1, ax0), (.getfield 7, 3, (axF 12 0 (2, 1, 13, some 1986))), (.iconst 1, 1, (axI 1)), (.iaload, 1, ax0)] (pc' := 20) (L' := [some (aR 12 0 0), some (aI v1), some (aI v2), none, none]) (stk' := [aI (σ.1 1 (ix 1)), aI v2]) (σ' := σ) (g := [inb 1 1986]) (by decide +kernel) rfl hg ?_
    refine aw_icmp_ge (off := 91) (tgt := 111) (by decide +kernel) (by decide) (fun c1 => ?_) (fun c1 => ?_)
    · rw [if_pos c1] at h
      refine aw_seq [(.iload_n 1, 1, ax0)] (pc' := 112) (L' := [some (aR 12 0 0), some (aI v1), some (aI v2), none, none]) (stk' := [aI v1]) (σ' := σ) (g := []) (by decide +kernel) rfl rfl ?_
      cases h
      exact aw_iret rfl (by decide +kernel)
    · rw [if_neg c1] at h
      refine aw_seq [(.iconst 1, 1, (axI 1)), (.istore_n 3, 1, ax0), (.iconst 0, 1, (axI 0)), (.istore 4, 2, ax0)] (pc' := 28) (L' := [some (aR 12 0 0), some (aI v1), some (aI v2), some (aI 1), some (aI 0)]) (stk' := []) (σ' := σ) (g := []) (by decide +kernel) rfl rfl ?_
      refine aw_forget (L' := [some (aR 12 0 0), some (aI v1), some (aI v2), some (aI 1), some (aI 0)]) (lsub_s (lsub_s (lsub_s (lsub_s (lsub_s (lsub_0)))))) ?_
      exact ok_X12_whose_28 ih FU v1 v2 1 0 σ _ h
def f_X12_whose  (σ : Sg) : Option (Int32 × Sg) :=
  bnd (f_X12_allOf 3 σ) fun r6 σ5 =>
  ltσ (wI σ5 0 23 r6) fun σ7 =>
  f_X12_whose_13 FU 0 0 σ7
set_option maxRecDepth 100000 in
set_option maxHeartbeats 4000000 in
theorem ok_X12_whose {κ : Kd}  {σ : Sg} {q : (Int32 × Sg)} (h : f_X12_whose σ = some q) : AMet κ pX12_whose 6 [aR 12 0 0] σ (some (aI q.1), q.2) := by
  unfold f_X12_whose at h
  refine amet_of okp_X12_whose [(false, aR 12 0 0)] (List.forall_mem_cons.mpr ⟨rfl, (fun _ hn => absurd hn List.not_mem_nil)⟩) 4 rfl ?_
  show AW κ pX12_whose 6 (some (aI q.1), q.2) 0 [some (aR 12 0 0), none, none, none, none] [] σ
  refine aw_seq [(.aload_n 0, 1, ax0), (.aload_n 0, 1, ax0), (.iconst 3, 1, (axI 3))] (pc' := 3) (L' := [some (aR 12 0 0), none, none, none, none]) (stk' := [aI 3, aR 12 0 0, aR 12 0 0]) (σ' := σ) (g := []) (by decide +kernel) rfl rfl ?_
  obtain ⟨r6, σ5, h4, h⟩ := bnd_some h
  refine aw_cV (P' := pX12_allOf) (idx := 346) (d' := 2) (c := 12) (n := 0) (k := 0) [aI 3] [aR 12 0 0] (ov := (some (aI r6))) (stk2 := [aI r6, aR 12 0 0]) okp_X12_allOf (by decide +kernel) ml_RX12_346 vok_X12_allOf (by decide) rfl nar_X12_allOf (by decide) rfl (Nat.le_of_ble_eq_true rfl) (ok_X12_allOf h4) rfl ?_
  obtain ⟨σ7, e8, h⟩ := ltσ_some h
  refine aw_seq [(.putfield 297, 3, (axF 12 23 (0, 0, 0, none)))] (pc' := 9) (L' := [some (aR 12 0 0), none, none, none, none]) (stk' := []) (σ' := σ7) (g := []) (by decide +kernel) (by rw [e8]; rfl) rfl ?_
  refine aw_seq [(.iconst 0, 1, (axI 0)), (.istore_n 1, 1, ax0), (.iconst 0, 1, (axI 0)), (.istore_n 2, 1, ax0)] (pc' := 13) (L' := [some (aR 12 0 0), some (aI 0), some (aI 0), none, none]) (stk' := []) (σ' := σ7) (g := []) (by decide +kernel) rfl rfl ?_
  refine aw_forget (L' := [some (aR 12 0 0), some (aI 0), some (aI 0), none, none]) (lsub_s (lsub_s (lsub_s (lsub_n (lsub_n (lsub_0)))))) ?_
  exact ok_X12_whose_13 FU 0 0 σ7 _ h
def f_X12_image  (σ : Sg) : Option (Int32 × Sg) :=
  bndV (f_X12_copy 1 2 σ) fun σ2 =>
  grd (inb 6 1986 && true) <|
  some ((σ2.1 1 (ix 6)), σ2)
set_option maxRecDepth 100000 in
set_option maxHeartbeats 4000000 in
theorem ok_X12_image {κ : Kd}  {σ : Sg} {q : (Int32 × Sg)} (h : f_X12_image σ = some q) : AMet κ pX12_image 2 [aR 12 0 0] σ (some (aI q.1), q.2) := by
  unfold f_X12_image at h
  refine amet_of okp_X12_image [(false, aR 12 0 0)] (List.forall_mem_cons.mpr ⟨rfl, (fun _ hn => absurd hn List.not_mem_nil)⟩) 0 rfl ?_
  show AW κ pX12_image 2 (some (aI q.1), q.2) 0 [some (aR 12 0 0)] [] σ
  refine aw_seq [(.aload_n 0, 1, ax0), (.getfield 7, 3, (axF 12 0 (2, 1, 13, some 1986))), (.aload_n 0, 1, ax0), (.getfield 13, 3, (axF 12 1 (2, 2, 13, some 1986)))] (pc' := 8) (L' := [some (aR 12 0 0)]) (stk' := [aR 13 1986 2, aR 13 1986 1]) (σ' := σ) (g := []) (by decide +kernel) rfl rfl ?_
  obtain ⟨σ2, h1, h⟩ := bndV_some h
  refine aw_cS (P' := pX12_copy) (idx := 65) (d' := 1) [aR 13 1986 1, aR 13 1986 2] [] (ov := none) (stk2 := []) okp_X12_copy (by decide +kernel) ml_RX12_65 tok_X12_copy nar_X12_copy (by decide) rfl (Nat.le_of_ble_eq_true rfl) (ok_X12_copy h1) rfl ?_
  obtain ⟨hg, h⟩ := grd_some h
  refine aw_seq [(.aload_n 0, 1, ax0), (.getfield 7, 3, (axF 12 0 (2, 1, 13, some 1986))), (.bipush 6, 2, (axI 6)), (.iaload, 1, ax0)] (pc' := 18) (L' := [some (aR 12 0 0)]) (stk' := [aI (σ2.1 1 (ix 6))]) (σ' := σ2) (g := [inb 6 1986]) (by decide +kernel) rfl hg ?_
  cases h
  exact aw_iret rfl (by decide +kernel)
def f_X12_back  (σ : Sg) : Option (Int32 × Sg) :=
  bndV (f_X12_copy 2 1 σ) fun σ2 =>
  grd (inb 6 1986 && true) <|
  some ((σ2.1 1 (ix 6)), σ2)
set_option maxRecDepth 100000 in
set_option maxHeartbeats 4000000 in
theorem ok_X12_back {κ : Kd}  {σ : Sg} {q : (Int32 × Sg)} (h : f_X12_back σ = some q) : AMet κ pX12_back 2 [aR 12 0 0] σ (some (aI q.1), q.2) := by
  unfold f_X12_back at h
  refine amet_of okp_X12_back [(false, aR 12 0 0)] (List.forall_mem_cons.mpr ⟨rfl, (fun _ hn => absurd hn List.not_mem_nil)⟩) 0 rfl ?_
  show AW κ pX12_back 2 (some (aI q.1), q.2) 0 [some (aR 12 0 0)] [] σ
  refine aw_seq [(.aload_n 0, 1, ax0), (.getfield 13, 3, (axF 12 1 (2, 2, 13, some 1986))), (.aload_n 0, 1, ax0), (.getfield 7, 3, (axF 12 0 (2, 1, 13, some 1986)))] (pc' := 8) (L' := [some (aR 12 0 0)]) (stk' := [aR 13 1986 1, aR 13 1986 2]) (σ' := σ) (g := []) (by decide +kernel) rfl rfl ?_
  obtain ⟨σ2, h1, h⟩ := bndV_some h
  refine aw_cS (P' := pX12_copy) (idx := 65) (d' := 1) [aR 13 1986 2, aR 13 1986 1] [] (ov := none) (stk2 := []) okp_X12_copy (by decide +kernel) ml_RX12_65 tok_X12_copy nar_X12_copy (by decide) rfl (Nat.le_of_ble_eq_true rfl) (ok_X12_copy h1) rfl ?_
  obtain ⟨hg, h⟩ := grd_some h
  refine aw_seq [(.aload_n 0, 1, ax0), (.getfield 7, 3, (axF 12 0 (2, 1, 13, some 1986))), (.bipush 6, 2, (axI 6)), (.iaload, 1, ax0)] (pc' := 18) (L' := [some (aR 12 0 0)]) (stk' := [aI (σ2.1 1 (ix 6))]) (σ' := σ2) (g := [inb 6 1986]) (by decide +kernel) rfl hg ?_
  cases h
  exact aw_iret rfl (by decide +kernel)
def f_X12_about_33   (s0 : Int32) (σ : Sg) : Option (Int32 × Sg) :=
  some (s0, σ)
set_option maxRecDepth 100000 in
set_option maxHeartbeats 4000000 in
theorem ok_X12_about_33 {κ : Kd}    : ∀ (s0 : Int32) (σ : Sg) (q : (Int32 × Sg)), f_X12_about_33 s0 σ = some q → AW κ pX12_about 2 (some (aI q.1), q.2) 33 [none, none] [aI s0] σ := by
  intro s0 σ q h
  unfold f_X12_about_33 at h
  cases h
  exact aw_iret rfl (by decide +kernel)
def f_X12_about (v1 : Int32) (σ : Sg) : Option (Int32 × Sg) :=
  bnd (f_X12_isIn v1 0 5 σ) fun r3 σ2 =>
  if r3 = 0 then (
    if v1 = 6 then (
      f_X12_about_33 (σ2.1 0 4) σ2
    ) else (
      f_X12_about_33 (-2) σ2
    )
  ) else (
    grd (inb v1 1986 && true) <|
    f_X12_about_33 (σ2.1 1 (ix v1)) σ2
  )
set_option maxRecDepth 100000 in
set_option maxHeartbeats 4000000 in
theorem ok_X12_about {κ : Kd} {v1 : Int32} {σ : Sg} {q : (Int32 × Sg)} (h : f_X12_about v1 σ = some q) : AMet κ pX12_about 2 [aR 12 0 0, aI v1] σ (some (aI q.1), q.2) := by
  unfold f_X12_about at h
  refine amet_of okp_X12_about [(false, aR 12 0 0), (false, aI v1)] (List.forall_mem_cons.mpr ⟨rfl, List.forall_mem_cons.mpr ⟨rfl, (fun _ hn => absurd hn List.not_mem_nil)⟩⟩) 0 rfl ?_
  show AW κ pX12_about 2 (some (aI q.1), q.2) 0 [some (aR 12 0 0), some (aI v1)] [] σ
  refine aw_seq [(.iload_n 1, 1, ax0), (.iconst 0, 1, (axI 0)), (.iconst 5, 1, (axI 5))] (pc' := 3) (L' := [some (aR 12 0 0), some (aI v1)]) (stk' := [aI 5, aI 0, aI v1]) (σ' := σ) (g := []) (by decide +kernel) rfl rfl ?_
  obtain ⟨r3, σ2, h1, h⟩ := bnd_some h
  refine aw_cS (P' := pX12_isIn) (idx := 69) (d' := 1) [aI v1, aI 0, aI 5] [] (ov := (some (aI r3))) (stk2 := [aI r3]) okp_X12_isIn (by decide +kernel) ml_RX12_69 tok_X12_isIn nar_X12_isIn (by decide) rfl (Nat.le_of_ble_eq_true rfl) (ok_X12_isIn h1) rfl ?_
  refine aw_if_eq (off := 12) (tgt := 18) (by decide +kernel) (by decide) (fun c1 => ?_) (fun c1 => ?_)
  · rw [if_pos c1] at h
    refine aw_seq [(.iload_n 1, 1, ax0), (.bipush 6, 2, (axI 6))] (pc' := 21) (L' := [some (aR 12 0 0), some (aI v1)]) (stk' := [aI 6, aI v1]) (σ' := σ2) (g := []) (by decide +kernel) rfl rfl ?_
    refine aw_icmp_ne (off := 10) (tgt := 31) (by decide +kernel) (by decide) (fun c1 => ?_) (fun c1 => ?_)
    · rw [if_neg c1] at h
      refine aw_seq [(.bipush (-2), 2, (axI (-2)))] (pc' := 33) (L' := [some (aR 12 0 0), some (aI v1)]) (stk' := [aI (-2)]) (σ' := σ2) (g := []) (by decide +kernel) rfl rfl ?_
      refine aw_forget (L' := [none, none]) (lsub_n (lsub_n (lsub_0))) ?_
      exact ok_X12_about_33 (-2) σ2 _ h
    · rw [if_pos c1] at h
      refine aw_seq [(.aload_n 0, 1, ax0), (.getfield 92, 3, (axF 12 4 (0, 0, 0, none)))] (pc' := 28) (L' := [some (aR 12 0 0), some (aI v1)]) (stk' := [aI (σ2.1 0 4)]) (σ' := σ2) (g := []) (by decide +kernel) rfl rfl ?_
      refine aw_goto (off := 5) (tgt := 33) (by decide +kernel) (by decide) ?_
      refine aw_forget (L' := [none, none]) (lsub_n (lsub_n (lsub_0))) ?_
      exact ok_X12_about_33 (σ2.1 0 4) σ2 _ h
  · rw [if_neg c1] at h
    obtain ⟨hg, h⟩ := grd_some h
    refine aw_seq [(.aload_n 0, 1, ax0), (.getfield 7, 3, (axF 12 0 (2, 1, 13, some 1986))), (.iload_n 1, 1, ax0), (.iaload, 1, ax0)] (pc' := 15) (L' := [some (aR 12 0 0), some (aI v1)]) (stk' := [aI (σ2.1 1 (ix v1))]) (σ' := σ2) (g := [inb v1 1986]) (by decide +kernel) rfl hg ?_
    refine aw_goto (off := 18) (tgt := 33) (by decide +kernel) (by decide) ?_
    refine aw_forget (L' := [none, none]) (lsub_n (lsub_n (lsub_0))) ?_
    exact ok_X12_about_33 (σ2.1 1 (ix v1)) σ2 _ h
