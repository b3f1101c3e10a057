/-! printed by wip/whole/gen4.py from the class file: summed, figure, worded, lawClause, pair, body, isSpreads, sortOf, clause, readText, text, fault, by, clip, two, isAsked, warmOf, joined -/
def f_X12_summed_15   : Nat → Sg → Option (Int32 × Sg)
  | 0, _ => none
  | fu + 1, σ =>
    if (σ.1 0 18) = 0 then (
      bnd (f_X12_beginOne σ) fun r3 σ2 =>
      if r3 = 0 then (
        (f_X12_summed_15 fu) σ2
      ) else (
        some (r3, σ2)
      )
    ) else (
      bnd (f_X12_behindOne σ) fun r6 σ5 =>
      if r6 = 0 then (
        bnd (f_X12_openNow σ5) fun r9 σ8 =>
        if r9 < 0 then (
          bndV (f_X12_settle 1 σ8) fun σ11 =>
          some (0, σ11)
        ) else (
          some (1, σ8)
        )
      ) else (
        (f_X12_summed_15 fu) σ5
      )
    )
set_option maxRecDepth 100000 in
set_option maxHeartbeats 4000000 in
theorem ok_X12_summed_15 {κ : Kd}    : ∀ (fu : Nat)  (σ : Sg) (q : (Int32 × Sg)), f_X12_summed_15 fu  σ = some q → AW κ pX12_summed 7 (some (aI q.1), q.2) 15 [some (aR 12 0 0), none] [] σ := by
  intro fu
  induction fu with
  | zero =>
    intro  σ q h
    unfold f_X12_summed_15 at h
    cases h
  | succ fu ih =>
    intro  σ q h
    unfold f_X12_summed_15 at h
    refine aw_seq [(.aload_n 0, 1, ax0), (.getfield 184, 3, (axF 12 18 (3, 0, 0, none)))] (pc' := 19) (L' := [some (aR 12 0 0), none]) (stk' := [aI (σ.1 0 18)]) (σ' := σ) (g := []) (by decide +kernel) rfl rfl ?_
    refine aw_if_eq (off := 29) (tgt := 48) (by decide +kernel) (by decide) (fun c1 => ?_) (fun c1 => ?_)
    · rw [if_pos c1] at h
      refine aw_seq [(.aload_n 0, 1, ax0)] (pc' := 49) (L' := [some (aR 12 0 0), none]) (stk' := [aR 12 0 0]) (σ' := σ) (g := []) (by decide +kernel) rfl rfl ?_
      obtain ⟨r3, σ2, h1, h⟩ := bnd_some h
      refine aw_cV (P' := pX12_beginOne) (idx := 216) (d' := 6) (c := 12) (n := 0) (k := 0) [] [] (ov := (some (aI r3))) (stk2 := [aI r3]) okp_X12_beginOne (by decide +kernel) ml_RX12_216 vok_X12_beginOne (by decide) rfl nar_X12_beginOne (by decide) rfl (Nat.le_of_ble_eq_true rfl) (ok_X12_beginOne h1) rfl ?_
      refine aw_seq [(.istore_n 1, 1, ax0), (.iload_n 1, 1, ax0)] (pc' := 54) (L' := [some (aR 12 0 0), some (aI r3)]) (stk' := [aI r3]) (σ' := σ2) (g := []) (by decide +kernel) rfl rfl ?_
      refine aw_if_eq (off := 5) (tgt := 59) (by decide +kernel) (by decide) (fun c1 => ?_) (fun c1 => ?_)
      · rw [if_pos c1] at h
        refine aw_goto (off := (-44)) (tgt := 15) (by decide +kernel) (by decide) ?_
        refine aw_forget (L' := [some (aR 12 0 0), none]) (lsub_s (lsub_n (lsub_0))) ?_
        exact ih σ2 _ h
      · rw [if_neg c1] at h
        refine aw_seq [(.iload_n 1, 1, ax0)] (pc' := 58) (L' := [some (aR 12 0 0), some (aI r3)]) (stk' := [aI r3]) (σ' := σ2) (g := []) (by decide +kernel) rfl rfl ?_
        cases h
        exact aw_iret rfl (by decide +kernel)
    · rw [if_neg c1] at h
      refine aw_seq [(.aload_n 0, 1, ax0)] (pc' := 23) (L' := [some (aR 12 0 0), none]) (stk' := [aR 12 0 0]) (σ' := σ) (g := []) (by decide +kernel) rfl rfl ?_
      obtain ⟨r6, σ5, h4, h⟩ := bnd_some h
      refine aw_cV (P' := pX12_behindOne) (idx := 213) (d' := 5) (c := 12) (n := 0) (k := 0) [] [] (ov := (some (aI r6))) (stk2 := [aI r6]) okp_X12_behindOne (by decide +kernel) ml_RX12_213 vok_X12_behindOne (by decide) rfl nar_X12_behindOne (by decide) rfl (Nat.le_of_ble_eq_true rfl) (ok_X12_behindOne h4) rfl ?_
      refine aw_if_eq (off := 6) (tgt := 32) (by decide +kernel) (by decide) (fun c1 => ?_) (fun c1 => ?_)
      · rw [if_pos c1] at h
        refine aw_seq [(.aload_n 0, 1, ax0)] (pc' := 33) (L' := [some (aR 12 0 0), none]) (stk' := [aR 12 0 0]) (σ' := σ5) (g := []) (by decide +kernel) rfl rfl ?_
        obtain ⟨r9, σ8, h7, h⟩ := bnd_some h
        refine aw_cV (P' := pX12_openNow) (idx := 169) (d' := 2) (c := 12) (n := 0) (k := 0) [] [] (ov := (some (aI r9))) (stk2 := [aI r9]) okp_X12_openNow (by decide +kernel) ml_RX12_169 vok_X12_openNow (by decide) rfl nar_X12_openNow (by decide) rfl (Nat.le_of_ble_eq_true rfl) (ok_X12_openNow h7) rfl ?_
        refine aw_if_lt (off := 5) (tgt := 41) (by decide +kernel) (by decide) (fun c1 => ?_) (fun c1 => ?_)
        · rw [if_pos c1] at h
          refine aw_seq [(.aload_n 0, 1, ax0), (.iconst 1, 1, (axI 1))] (pc' := 43) (L' := [some (aR 12 0 0), none]) (stk' := [aI 1, aR 12 0 0]) (σ' := σ8) (g := []) (by decide +kernel) rfl rfl ?_
          obtain ⟨σ11, h10, h⟩ := bndV_some h
          refine aw_cV (P' := pX12_settle) (idx := 187) (d' := 2) (c := 12) (n := 0) (k := 0) [aI 1] [] (ov := none) (stk2 := []) okp_X12_settle (by decide +kernel) ml_RX12_187 vok_X12_settle (by decide) rfl nar_X12_settle (by decide) rfl (Nat.le_of_ble_eq_true rfl) (ok_X12_settle h10) rfl ?_
          refine aw_seq [(.iconst 0, 1, (axI 0))] (pc' := 47) (L' := [some (aR 12 0 0), none]) (stk' := [aI 0]) (σ' := σ11) (g := []) (by decide +kernel) rfl rfl ?_
          cases h
          exact aw_iret rfl (by decide +kernel)
        · rw [if_neg c1] at h
          refine aw_seq [(.iconst 1, 1, (axI 1))] (pc' := 40) (L' := [some (aR 12 0 0), none]) (stk' := [aI 1]) (σ' := σ8) (g := []) (by decide +kernel) rfl rfl ?_
          cases h
          exact aw_iret rfl (by decide +kernel)
      · rw [if_neg c1] at h
        refine aw_goto (off := (-14)) (tgt := 15) (by decide +kernel) (by decide) ?_
        refine aw_forget (L' := [some (aR 12 0 0), none]) (lsub_s (lsub_n (lsub_0))) ?_
        exact ih σ5 _ h
def f_X12_summed  (σ : Sg) : Option (Int32 × Sg) :=
  ltσ (wI σ 0 16 0) fun σ12 =>
  ltσ (wI σ12 0 17 0) fun σ14 =>
  grd (bz 0 && true) <|
  ltσ (wI σ14 0 18 0) fun σ16 =>
  f_X12_summed_15 FU σ16
set_option maxRecDepth 100000 in
set_option maxHeartbeats 4000000 in
theorem ok_X12_summed {κ : Kd}  {σ : Sg} {q : (Int32 × Sg)} (h : f_X12_summed σ = some q) : AMet κ pX12_summed 7 [aR 12 0 0] σ (some (aI q.1), q.2) := by
  unfold f_X12_summed at h
  refine amet_of okp_X12_summed [(false, aR 12 0 0)] (List.forall_mem_cons.mpr ⟨rfl, (fun _ hn => absurd hn List.not_mem_nil)⟩) 1 rfl ?_
  show AW κ pX12_summed 7 (some (aI q.1), q.2) 0 [some (aR 12 0 0), none] [] σ
  obtain ⟨σ12, e13, h⟩ := ltσ_some h
  refine aw_seq [(.aload_n 0, 1, ax0), (.iconst 0, 1, (axI 0)), (.putfield 152, 3, (axF 12 16 (0, 0, 0, none)))] (pc' := 5) (L' := [some (aR 12 0 0), none]) (stk' := []) (σ' := σ12) (g := []) (by decide +kernel) (by rw [e13]; rfl) rfl ?_
  obtain ⟨σ14, e15, h⟩ := ltσ_some h
  refine aw_seq [(.aload_n 0, 1, ax0), (.iconst 0, 1, (axI 0)), (.putfield 162, 3, (axF 12 17 (0, 0, 0, none)))] (pc' := 10) (L' := [some (aR 12 0 0), none]) (stk' := []) (σ' := σ14) (g := []) (by decide +kernel) (by rw [e15]; rfl) rfl ?_
  obtain ⟨hg, h⟩ := grd_some h
  obtain ⟨σ16, e17, h⟩ := ltσ_some h
  refine aw_seq [(.aload_n 0, 1, ax0), (.iconst 0, 1, (axI 0)), (.putfield 184, 3, (axF 12 18 (3, 0, 0, none)))] (pc' := 15) (L' := [some (aR 12 0 0), none]) (stk' := []) (σ' := σ16) (g := [bz 0]) (by decide +kernel) (by rw [e17]; rfl) hg ?_
  refine aw_forget (L' := [some (aR 12 0 0), none]) (lsub_s (lsub_n (lsub_0))) ?_
  exact ok_X12_summed_15 FU σ16 _ h
def f_X12_figure (v1 : Int32) (v2 : Int32) (v3 : Int32) (σ : Sg) : Option (Int32 × Sg) :=
  if (σ.1 0 9) = 1 then (
    bnd (f_X12_isIn (σ.1 0 10) v2 v3 σ) fun r3 σ2 =>
    if r3 = 0 then (
      some (2, σ2)
    ) else (
      grd (inb v1 2820 && true) <|
      ltσ (wI σ2 3 (ix v1) (σ2.1 0 10)) fun σ4 =>
      bndV (f_X12_nextToken σ4) fun σ7 =>
      some (0, σ7)
    )
  ) else (
    some (1, σ)
  )
set_option maxRecDepth 100000 in
set_option maxHeartbeats 4000000 in
theorem ok_X12_figure {κ : Kd} {v1 : Int32} {v2 : Int32} {v3 : Int32} {σ : Sg} {q : (Int32 × Sg)} (h : f_X12_figure v1 v2 v3 σ = some q) : AMet κ pX12_figure 3 [aR 12 0 0, aI v1, aI v2, aI v3] σ (some (aI q.1), q.2) := by
  unfold f_X12_figure at h
  refine amet_of okp_X12_figure [(false, aR 12 0 0), (false, aI v1), (false, aI v2), (false, aI v3)] (List.forall_mem_cons.mpr ⟨rfl, List.forall_mem_cons.mpr ⟨rfl, List.forall_mem_cons.mpr ⟨rfl, List.forall_mem_cons.mpr ⟨rfl, (fun _ hn => absurd hn List.not_mem_nil)⟩⟩⟩⟩) 0 rfl ?_
  show AW κ pX12_figure 3 (some (aI q.1), q.2) 0 [some (aR 12 0 0), some (aI v1), some (aI v2), some (aI v3)] [] σ
  refine aw_seq [(.aload_n 0, 1, ax0), (.getfield 108, 3, (axF 12 9 (0, 0, 0, none))), (.iconst 1, 1, (axI 1))] (pc' := 5) (L' := [some (aR 12 0 0), some (aI v1), some (aI v2), some (aI v3)]) (stk' := [aI 1, aI (σ.1 0 9)]) (σ' := σ) (g := []) (by decide +kernel) rfl rfl ?_
  refine aw_icmp_eq (off := 5) (tgt := 10) (by decide +kernel) (by decide) (fun c1 => ?_) (fun c1 => ?_)
  · rw [if_pos c1] at h
    refine aw_seq [(.aload_n 0, 1, ax0), (.getfield 114, 3, (axF 12 10 (0, 0, 0, none))), (.iload_n 2, 1, ax0), (.iload_n 3, 1, ax0)] (pc' := 16) (L' := [some (aR 12 0 0), some (aI v1), some (aI v2), some (aI v3)]) (stk' := [aI v3, aI v2, aI (σ.1 0 10)]) (σ' := σ) (g := []) (by decide +kernel) rfl rfl ?_
    obtain ⟨r3, σ2, h1, h⟩ := bnd_some h
    refine aw_cS (P' := pX12_isIn) (idx := 69) (d' := 1) [aI (σ.1 0 10), aI v2, aI v3] [] (ov := (some (aI r3))) (stk2 := [aI r3]) okp_X12_isIn (by decide +kernel) ml_RX12_69 tok_X12_isIn nar_X12_isIn (by decide) rfl (Nat.le_of_ble_eq_true rfl) (ok_X12_isIn h1) rfl ?_
    refine aw_if_ne (off := 5) (tgt := 24) (by decide +kernel) (by decide) (fun c1 => ?_) (fun c1 => ?_)
    · rw [if_neg c1] at h
      obtain ⟨hg, h⟩ := grd_some h
      obtain ⟨σ4, e5, h⟩ := ltσ_some h
      refine aw_seq [(.aload_n 0, 1, ax0), (.getfield 16, 3, (axF 12 2 (2, 3, 13, some 2820))), (.iload_n 1, 1, ax0), (.aload_n 0, 1, ax0), (.getfield 114, 3, (axF 12 10 (0, 0, 0, none))), (.iastore, 1, ax0)] (pc' := 34) (L' := [some (aR 12 0 0), some (aI v1), some (aI v2), some (aI v3)]) (stk' := []) (σ' := σ4) (g := [inb v1 2820]) (by decide +kernel) (by rw [e5]; rfl) hg ?_
      refine aw_seq [(.aload_n 0, 1, ax0)] (pc' := 35) (L' := [some (aR 12 0 0), some (aI v1), some (aI v2), some (aI v3)]) (stk' := [aR 12 0 0]) (σ' := σ4) (g := []) (by decide +kernel) rfl rfl ?_
      obtain ⟨σ7, h6, h⟩ := bndV_some h
      refine aw_cV (P' := pX12_nextToken) (idx := 175) (d' := 2) (c := 12) (n := 0) (k := 0) [] [] (ov := none) (stk2 := []) okp_X12_nextToken (by decide +kernel) ml_RX12_175 vok_X12_nextToken (by decide) rfl nar_X12_nextToken (by decide) rfl (Nat.le_of_ble_eq_true rfl) (ok_X12_nextToken h6) rfl ?_
      refine aw_seq [(.iconst 0, 1, (axI 0))] (pc' := 39) (L' := [some (aR 12 0 0), some (aI v1), some (aI v2), some (aI v3)]) (stk' := [aI 0]) (σ' := σ7) (g := []) (by decide +kernel) rfl rfl ?_
      cases h
      exact aw_iret rfl (by decide +kernel)
    · rw [if_pos c1] at h
      refine aw_seq [(.iconst 2, 1, (axI 2))] (pc' := 23) (L' := [some (aR 12 0 0), some (aI v1), some (aI v2), some (aI v3)]) (stk' := [aI 2]) (σ' := σ2) (g := []) (by decide +kernel) rfl rfl ?_
      cases h
      exact aw_iret rfl (by decide +kernel)
  · rw [if_neg c1] at h
    refine aw_seq [(.iconst 1, 1, (axI 1))] (pc' := 9) (L' := [some (aR 12 0 0), some (aI v1), some (aI v2), some (aI v3)]) (stk' := [aI 1]) (σ' := σ) (g := []) (by decide +kernel) rfl rfl ?_
    cases h
    exact aw_iret rfl (by decide +kernel)
def f_X12_worded (v1 : Int64) (v3 : Int32) (v4 : Int32) (σ : Sg) : Option (Int32 × Sg) :=
  bnd (f_X12_isWord v1 σ) fun r3 σ2 =>
  if r3 = 0 then (
    some (1, σ2)
  ) else (
    bndV (f_X12_nextToken σ2) fun σ5 =>
    bnd (f_X12_figure v3 0 v4 σ5) fun r8 σ7 =>
    some (r8, σ7)
  )
set_option maxRecDepth 100000 in
set_option maxHeartbeats 4000000 in
theorem ok_X12_worded {κ : Kd} {v1 : Int64} {v3 : Int32} {v4 : Int32} {σ : Sg} {q : (Int32 × Sg)} (h : f_X12_worded v1 v3 v4 σ = some q) : AMet κ pX12_worded 4 [aR 12 0 0, aL v1, aI v3, aI v4] σ (some (aI q.1), q.2) := by
  unfold f_X12_worded at h
  refine amet_of okp_X12_worded [(false, aR 12 0 0), (true, aL v1), (false, aI v3), (false, aI v4)] (List.forall_mem_cons.mpr ⟨rfl, List.forall_mem_cons.mpr ⟨rfl, List.forall_mem_cons.mpr ⟨rfl, List.forall_mem_cons.mpr ⟨rfl, (fun _ hn => absurd hn List.not_mem_nil)⟩⟩⟩⟩) 0 rfl ?_
  show AW κ pX12_worded 4 (some (aI q.1), q.2) 0 [some (aR 12 0 0), some (aL v1), none, some (aI v3), some (aI v4)] [] σ
  refine aw_seq [(.aload_n 0, 1, ax0), (.lload_n 1, 1, ax0)] (pc' := 2) (L' := [some (aR 12 0 0), some (aL v1), none, some (aI v3), some (aI v4)]) (stk' := [aL v1, aR 12 0 0]) (σ' := σ) (g := []) (by decide +kernel) rfl rfl ?_
  obtain ⟨r3, σ2, h1, h⟩ := bnd_some h
  refine aw_cV (P' := pX12_isWord) (idx := 193) (d' := 1) (c := 12) (n := 0) (k := 0) [aL v1] [] (ov := (some (aI r3))) (stk2 := [aI r3]) okp_X12_isWord (by decide +kernel) ml_RX12_193 vok_X12_isWord (by decide) rfl nar_X12_isWord (by decide) rfl (Nat.le_of_ble_eq_true rfl) (ok_X12_isWord h1) rfl ?_
  refine aw_if_ne (off := 5) (tgt := 10) (by decide +kernel) (by decide) (fun c1 => ?_) (fun c1 => ?_)
  · rw [if_neg c1] at h
    refine aw_seq [(.aload_n 0, 1, ax0)] (pc' := 11) (L' := [some (aR 12 0 0), some (aL v1), none, some (aI v3), some (aI v4)]) (stk' := [aR 12 0 0]) (σ' := σ2) (g := []) (by decide +kernel) rfl rfl ?_
    obtain ⟨σ5, h4, h⟩ := bndV_some h
    refine aw_cV (P' := pX12_nextToken) (idx := 175) (d' := 2) (c := 12) (n := 0) (k := 0) [] [] (ov := none) (stk2 := []) okp_X12_nextToken (by decide +kernel) ml_RX12_175 vok_X12_nextToken (by decide) rfl nar_X12_nextToken (by decide) rfl (Nat.le_of_ble_eq_true rfl) (ok_X12_nextToken h4) rfl ?_
    refine aw_seq [(.aload_n 0, 1, ax0), (.iload_n 3, 1, ax0), (.iconst 0, 1, (axI 0)), (.iload 4, 2, ax0)] (pc' := 19) (L' := [some (aR 12 0 0), some (aL v1), none, some (aI v3), some (aI v4)]) (stk' := [aI v4, aI 0, aI v3, aR 12 0 0]) (σ' := σ5) (g := []) (by decide +kernel) rfl rfl ?_
    obtain ⟨r8, σ7, h6, h⟩ := bnd_some h
    refine aw_cV (P' := pX12_figure) (idx := 219) (d' := 3) (c := 12) (n := 0) (k := 0) [aI v3, aI 0, aI v4] [] (ov := (some (aI r8))) (stk2 := [aI r8]) okp_X12_figure (by decide +kernel) ml_RX12_219 vok_X12_figure (by decide) rfl nar_X12_figure (by decide) rfl (Nat.le_of_ble_eq_true rfl) (ok_X12_figure h6) rfl ?_
    cases h
    exact aw_iret rfl (by decide +kernel)
  · rw [if_pos c1] at h
    refine aw_seq [(.iconst 1, 1, (axI 1))] (pc' := 9) (L' := [some (aR 12 0 0), some (aL v1), none, some (aI v3), some (aI v4)]) (stk' := [aI 1]) (σ' := σ2) (g := []) (by decide +kernel) rfl rfl ?_
    cases h
    exact aw_iret rfl (by decide +kernel)
def f_X12_lawClause (v1 : Int32) (σ : Sg) : Option (Int32 × Sg) :=
  grd (inb (v1 + 1) 2820 && true) <|
  ltσ (wI σ 3 (ix (v1 + 1)) (σ.1 0 13)) fun σ1 =>
  bnd (f_X12_summed σ1) fun r5 σ4 =>
  grd (inb (v1 + 2) 2820 && true) <|
  ltσ (wI σ4 3 (ix (v1 + 2)) (σ4.1 0 13)) fun σ6 =>
  some (r5, σ6)
set_option maxRecDepth 100000 in
set_option maxHeartbeats 4000000 in
theorem ok_X12_lawClause {κ : Kd} {v1 : Int32} {σ : Sg} {q : (Int32 × Sg)} (h : f_X12_lawClause v1 σ = some q) : AMet κ pX12_lawClause 8 [aR 12 0 0, aI v1] σ (some (aI q.1), q.2) := by
  unfold f_X12_lawClause at h
  refine amet_of okp_X12_lawClause [(false, aR 12 0 0), (false, aI v1)] (List.forall_mem_cons.mpr ⟨rfl, List.forall_mem_cons.mpr ⟨rfl, (fun _ hn => absurd hn List.not_mem_nil)⟩⟩) 1 rfl ?_
  show AW κ pX12_lawClause 8 (some (aI q.1), q.2) 0 [some (aR 12 0 0), some (aI v1), none] [] σ
  obtain ⟨hg, h⟩ := grd_some h
  obtain ⟨σ1, e2, h⟩ := ltσ_some h
  refine aw_seq [(.aload_n 0, 1, ax0), (.getfield 16, 3, (axF 12 2 (2, 3, 13, some 2820))), (.iload_n 1, 1, ax0), (.iconst 1, 1, (axI 1)), (.iadd, 1, ax0), (.aload_n 0, 1, ax0), (.getfield 149, 3, (axF 12 13 (0, 0, 0, none))), (.iastore, 1, ax0)] (pc' := 12) (L' := [some (aR 12 0 0), some (aI v1), none]) (stk' := []) (σ' := σ1) (g := [inb (v1 + 1) 2820]) (by decide +kernel) (by rw [e2]; rfl) hg ?_
  refine aw_seq [(.aload_n 0, 1, ax0)] (pc' := 13) (L' := [some (aR 12 0 0), some (aI v1), none]) (stk' := [aR 12 0 0]) (σ' := σ1) (g := []) (by decide +kernel) rfl rfl ?_
  obtain ⟨r5, σ4, h3, h⟩ := bnd_some h
  refine aw_cV (P' := pX12_summed) (idx := 223) (d' := 7) (c := 12) (n := 0) (k := 0) [] [] (ov := (some (aI r5))) (stk2 := [aI r5]) okp_X12_summed (by decide +kernel) ml_RX12_223 vok_X12_summed (by decide) rfl nar_X12_summed (by decide) rfl (Nat.le_of_ble_eq_true rfl) (ok_X12_summed h3) rfl ?_
  obtain ⟨hg, h⟩ := grd_some h
  obtain ⟨σ6, e7, h⟩ := ltσ_some h
  refine aw_seq [(.istore_n 2, 1, ax0), (.aload_n 0, 1, ax0), (.getfield 16, 3, (axF 12 2 (2, 3, 13, some 2820))), (.iload_n 1, 1, ax0), (.iconst 2, 1, (axI 2)), (.iadd, 1, ax0), (.aload_n 0, 1, ax0), (.getfield 149, 3, (axF 12 13 (0, 0, 0, none))), (.iastore, 1, ax0)] (pc' := 29) (L' := [some (aR 12 0 0), some (aI v1), some (aI r5)]) (stk' := []) (σ' := σ6) (g := [inb (v1 + 2) 2820]) (by decide +kernel) (by rw [e7]; rfl) hg ?_
  refine aw_seq [(.iload_n 2, 1, ax0)] (pc' := 30) (L' := [some (aR 12 0 0), some (aI v1), some (aI r5)]) (stk' := [aI r5]) (σ' := σ6) (g := []) (by decide +kernel) rfl rfl ?_
  cases h
  exact aw_iret rfl (by decide +kernel)
def f_X12_pair_31   (s0 : Int32) (σ : Sg) : Option (Int32 × Sg) :=
  some (s0, σ)
set_option maxRecDepth 100000 in
set_option maxHeartbeats 4000000 in
theorem ok_X12_pair_31 {κ : Kd}    : ∀ (s0 : Int32) (σ : Sg) (q : (Int32 × Sg)), f_X12_pair_31 s0 σ = some q → AW κ pX12_pair 5 (some (aI q.1), q.2) 31 [none, none, none, none, none, none, none] [aI s0] σ := by
  intro s0 σ q h
  unfold f_X12_pair_31 at h
  cases h
  exact aw_iret rfl (by decide +kernel)
def f_X12_pair (v1 : Int32) (v2 : Int32) (v3 : Int64) (v5 : Int32) (σ : Sg) : Option (Int32 × Sg) :=
  bnd (f_X12_figure (v1 + 1) 0 v2 σ) fun r3 σ2 =>
  if r3 = 0 then (
    bnd (f_X12_worded v3 (v1 + 2) v5 σ2) fun r6 σ5 =>
    f_X12_pair_31 r6 σ5
  ) else (
    f_X12_pair_31 r3 σ2
  )
set_option maxRecDepth 100000 in
set_option maxHeartbeats 4000000 in
theorem ok_X12_pair {κ : Kd} {v1 : Int32} {v2 : Int32} {v3 : Int64} {v5 : Int32} {σ : Sg} {q : (Int32 × Sg)} (h : f_X12_pair v1 v2 v3 v5 σ = some q) : AMet κ pX12_pair 5 [aR 12 0 0, aI v1, aI v2, aL v3, aI v5] σ (some (aI q.1), q.2) := by
  unfold f_X12_pair at h
  refine amet_of okp_X12_pair [(false, aR 12 0 0), (false, aI v1), (false, aI v2), (true, aL v3), (false, aI v5)] (List.forall_mem_cons.mpr ⟨rfl, List.forall_mem_cons.mpr ⟨rfl, List.forall_mem_cons.mpr ⟨rfl, List.forall_mem_cons.mpr ⟨rfl, List.forall_mem_cons.mpr ⟨rfl, (fun _ hn => absurd hn List.not_mem_nil)⟩⟩⟩⟩⟩) 1 rfl ?_
  show AW κ pX12_pair 5 (some (aI q.1), q.2) 0 [some (aR 12 0 0), some (aI v1), some (aI v2), some (aL v3), none, some (aI v5), none] [] σ
  refine aw_seq [(.aload_n 0, 1, ax0), (.iload_n 1, 1, ax0), (.iconst 1, 1, (axI 1)), (.iadd, 1, ax0), (.iconst 0, 1, (axI 0)), (.iload_n 2, 1, ax0)] (pc' := 6) (L' := [some (aR 12 0 0), some (aI v1), some (aI v2), some (aL v3), none, some (aI v5), none]) (stk' := [aI v2, aI 0, aI (v1 + 1), aR 12 0 0]) (σ' := σ) (g := []) (by decide +kernel) rfl rfl ?_
  obtain ⟨r3, σ2, h1, h⟩ := bnd_some h
  refine aw_cV (P' := pX12_figure) (idx := 219) (d' := 3) (c := 12) (n := 0) (k := 0) [aI (v1 + 1), aI 0, aI v2] [] (ov := (some (aI r3))) (stk2 := [aI r3]) okp_X12_figure (by decide +kernel) ml_RX12_219 vok_X12_figure (by decide) rfl nar_X12_figure (by decide) rfl (Nat.le_of_ble_eq_true rfl) (ok_X12_figure h1) rfl ?_
  refine aw_seq [(.istore 6, 2, ax0), (.iload 6, 2, ax0)] (pc' := 13) (L' := [some (aR 12 0 0), some (aI v1), some (aI v2), some (aL v3), none, some (aI v5), some (aI r3)]) (stk' := [aI r3]) (σ' := σ2) (g := []) (by decide +kernel) rfl rfl ?_
  refine aw_if_eq (off := 8) (tgt := 21) (by decide +kernel) (by decide) (fun c1 => ?_) (fun c1 => ?_)
  · rw [if_pos c1] at h
    refine aw_seq [(.aload_n 0, 1, ax0), (.lload_n 3, 1, ax0), (.iload_n 1, 1, ax0), (.iconst 2, 1, (axI 2)), (.iadd, 1, ax0), (.iload 5, 2, ax0)] (pc' := 28) (L' := [some (aR 12 0 0), some (aI v1), some (aI v2), some (aL v3), none, some (aI v5), some (aI r3)]) (stk' := [aI v5, aI (v1 + 2), aL v3, aR 12 0 0]) (σ' := σ2) (g := []) (by decide +kernel) rfl rfl ?_
    obtain ⟨r6, σ5, h4, h⟩ := bnd_some h
    refine aw_cV (P' := pX12_worded) (idx := 226) (d' := 4) (c := 12) (n := 0) (k := 0) [aL v3, aI (v1 + 2), aI v5] [] (ov := (some (aI r6))) (stk2 := [aI r6]) okp_X12_worded (by decide +kernel) ml_RX12_226 vok_X12_worded (by decide) rfl nar_X12_worded (by decide) rfl (Nat.le_of_ble_eq_true rfl) (ok_X12_worded h4) rfl ?_
    refine aw_forget (L' := [none, none, none, none, none, none, none]) (lsub_n (lsub_n (lsub_n (lsub_n (lsub_n (lsub_n (lsub_n (lsub_0)))))))) ?_
    exact ok_X12_pair_31 r6 σ5 _ h
  · rw [if_neg c1] at h
    refine aw_seq [(.iload 6, 2, ax0)] (pc' := 18) (L' := [some (aR 12 0 0), some (aI v1), some (aI v2), some (aL v3), none, some (aI v5), some (aI r3)]) (stk' := [aI r3]) (σ' := σ2) (g := []) (by decide +kernel) rfl rfl ?_
    refine aw_goto (off := 13) (tgt := 31) (by decide +kernel) (by decide) ?_
    refine aw_forget (L' := [none, none, none, none, none, none, none]) (lsub_n (lsub_n (lsub_n (lsub_n (lsub_n (lsub_n (lsub_n (lsub_0)))))))) ?_
    exact ok_X12_pair_31 r3 σ2 _ h
def f_X12_body_117   (s0 : Int32) (σ : Sg) : Option (Int32 × Sg) :=
  some (s0, σ)
set_option maxRecDepth 100000 in
set_option maxHeartbeats 4000000 in
theorem ok_X12_body_117 {κ : Kd}    : ∀ (s0 : Int32) (σ : Sg) (q : (Int32 × Sg)), f_X12_body_117 s0 σ = some q → AW κ pX12_body 9 (some (aI q.1), q.2) 117 [none, none, none, none] [aI s0] σ := by
  intro s0 σ q h
  unfold f_X12_body_117 at h
  cases h
  exact aw_iret rfl (by decide +kernel)
def f_X12_body_173   (s0 : Int32) (σ : Sg) : Option (Int32 × Sg) :=
  some (s0, σ)
set_option maxRecDepth 100000 in
set_option maxHeartbeats 4000000 in
theorem ok_X12_body_173 {κ : Kd}    : ∀ (s0 : Int32) (σ : Sg) (q : (Int32 × Sg)), f_X12_body_173 s0 σ = some q → AW κ pX12_body 9 (some (aI q.1), q.2) 173 [none, none, none, none] [aI s0] σ := by
  intro s0 σ q h
  unfold f_X12_body_173 at h
  cases h
  exact aw_iret rfl (by decide +kernel)
def f_X12_body_150   (v1 : Int32) (v2 : Int32) (σ : Sg) : Option (Int32 × Sg) :=
  if 2 < v1 then (
    bnd (f_X12_figure (v2 + 1) 0 7 σ) fun r3 σ2 =>
    f_X12_body_173 r3 σ2
  ) else (
    bnd (f_X12_lawClause v2 σ) fun r6 σ5 =>
    f_X12_body_173 r6 σ5
  )
set_option maxRecDepth 100000 in
set_option maxHeartbeats 4000000 in
theorem ok_X12_body_150 {κ : Kd}    : ∀ (v1 : Int32) (v2 : Int32) (σ : Sg) (q : (Int32 × Sg)), f_X12_body_150 v1 v2 σ = some q → AW κ pX12_body 9 (some (aI q.1), q.2) 150 [some (aR 12 0 0), some (aI v1), some (aI v2), none] [] σ := by
  intro v1 v2 σ q h
  unfold f_X12_body_150 at h
  refine aw_seq [(.iload_n 1, 1, ax0), (.iconst 2, 1, (axI 2))] (pc' := 152) (L' := [some (aR 12 0 0), some (aI v1), some (aI v2), none]) (stk' := [aI 2, aI v1]) (σ' := σ) (g := []) (by decide +kernel) rfl rfl ?_
  refine aw_icmp_gt (off := 11) (tgt := 163) (by decide +kernel) (by decide) (fun c1 => ?_) (fun c1 => ?_)
  · rw [if_pos c1] at h
    refine aw_seq [(.aload_n 0, 1, ax0), (.iload_n 2, 1, ax0), (.iconst 1, 1, (axI 1)), (.iadd, 1, ax0), (.iconst 0, 1, (axI 0)), (.bipush 7, 2, (axI 7))] (pc' := 170) (L' := [some (aR 12 0 0), some (aI v1), some (aI v2), none]) (stk' := [aI 7, aI 0, aI (v2 + 1), aR 12 0 0]) (σ' := σ) (g := []) (by decide +kernel) rfl rfl ?_
    obtain ⟨r3, σ2, h1, h⟩ := bnd_some h
    refine aw_cV (P' := pX12_figure) (idx := 219) (d' := 3) (c := 12) (n := 0) (k := 0) [aI (v2 + 1), aI 0, aI 7] [] (ov := (some (aI r3))) (stk2 := [aI r3]) okp_X12_figure (by decide +kernel) ml_RX12_219 vok_X12_figure (by decide) rfl nar_X12_figure (by decide) rfl (Nat.le_of_ble_eq_true rfl) (ok_X12_figure h1) rfl ?_
    refine aw_forget (L' := [none, none, none, none]) (lsub_n (lsub_n (lsub_n (lsub_n (lsub_0))))) ?_
    exact ok_X12_body_173 r3 σ2 _ h
  · rw [if_neg c1] at h
    refine aw_seq [(.aload_n 0, 1, ax0), (.iload_n 2, 1, ax0)] (pc' := 157) (L' := [some (aR 12 0 0), some (aI v1), some (aI v2), none]) (stk' := [aI v2, aR 12 0 0]) (σ' := σ) (g := []) (by decide +kernel) rfl rfl ?_
    obtain ⟨r6, σ5, h4, h⟩ := bnd_some h
    refine aw_cV (P' := pX12_lawClause) (idx := 234) (d' := 8) (c := 12) (n := 0) (k := 0) [aI v2] [] (ov := (some (aI r6))) (stk2 := [aI r6]) okp_X12_lawClause (by decide +kernel) ml_RX12_234 vok_X12_lawClause (by decide) rfl nar_X12_lawClause (by decide) rfl (Nat.le_of_ble_eq_true rfl) (ok_X12_lawClause h4) rfl ?_
    refine aw_goto (off := 13) (tgt := 173) (by decide +kernel) (by decide) ?_
    refine aw_forget (L' := [none, none, none, none]) (lsub_n (lsub_n (lsub_n (lsub_n (lsub_0))))) ?_
    exact ok_X12_body_173 r6 σ5 _ h
def f_X12_body (v1 : Int32) (v2 : Int32) (σ : Sg) : Option (Int32 × Sg) :=
  if v1 = 3 then (
    bnd (f_X12_w5 99 111 105 110 115 σ) fun r9 σ8 =>
    bnd (f_X12_pair v2 9 r9 9999 σ8) fun r12 σ11 =>
    some (r12, σ11)
  ) else (
  if v1 = 4 then (
    bnd (f_X12_w2 116 111 σ) fun r15 σ14 =>
    bnd (f_X12_pair v2 7 r15 7 σ14) fun r18 σ17 =>
    if r18 = 0 then (
      bnd (f_X12_w2 111 102 σ17) fun r21 σ20 =>
      bnd (f_X12_worded r21 (v2 + 3) 99 σ20) fun r24 σ23 =>
      f_X12_body_117 r24 σ23
    ) else (
      f_X12_body_117 r18 σ17
    )
  ) else (
  if v1 = 5 then (
    f_X12_body_150 v1 v2 σ
  ) else (
  if v1 = 6 then (
    f_X12_body_150 v1 v2 σ
  ) else (
  if v1 = 7 then (
    f_X12_body_150 v1 v2 σ
  ) else (
  if v1 = 8 then (
    bnd (f_X12_w4 102 114 111 109 σ) fun r27 σ26 =>
    bnd (f_X12_pair v2 7 r27 7 σ26) fun r30 σ29 =>
    some (r30, σ29)
  ) else (
  if v1 = 9 then (
    f_X12_body_150 v1 v2 σ
  ) else (
  if v1 = 10 then (
    f_X12_body_150 v1 v2 σ
  ) else (
  if v1 = 11 then (
    bnd (f_X12_figure (v2 + 1) 1 60 σ) fun r33 σ32 =>
    some (r33, σ32)
  ) else (
    f_X12_body_150 v1 v2 σ
  )))))))))
set_option maxRecDepth 100000 in
set_option maxHeartbeats 4000000 in
theorem ok_X12_body {κ : Kd} {v1 : Int32} {v2 : Int32} {σ : Sg} {q : (Int32 × Sg)} (h : f_X12_body v1 v2 σ = some q) : AMet κ pX12_body 9 [aR 12 0 0, aI v1, aI v2] σ (some (aI q.1), q.2) := by
  unfold f_X12_body at h
  refine amet_of okp_X12_body [(false, aR 12 0 0), (false, aI v1), (false, aI v2)] (List.forall_mem_cons.mpr ⟨rfl, List.forall_mem_cons.mpr ⟨rfl, List.forall_mem_cons.mpr ⟨rfl, (fun _ hn => absurd hn List.not_mem_nil)⟩⟩⟩) 1 rfl ?_
  show AW κ pX12_body 9 (some (aI q.1), q.2) 0 [some (aR 12 0 0), some (aI v1), some (aI v2), none] [] σ
  refine aw_seq [(.iload_n 1, 1, ax0)] (pc' := 1) (L' := [some (aR 12 0 0), some (aI v1), some (aI v2), none]) (stk' := [aI v1]) (σ' := σ) (g := []) (by decide +kernel) rfl rfl ?_
  refine aw_table (dflt := 149) (lo := 3) (hi := 11) (offs := #[51, 75, 149, 149, 149, 117, 149, 149, 138]) (len := 51) (dt := 150) (by decide +kernel) [(3, 52), (4, 76), (5, 150), (6, 150), (7, 150), (8, 118), (9, 150), (10, 150), (11, 139)] (by decide +kernel) ?_
  refine awsw_cons (fun c1 => ?_) (fun c1 => ?_)
  · rw [if_pos c1] at h
    refine aw_seq [(.aload_n 0, 1, ax0), (.iload_n 2, 1, ax0), (.bipush 9, 2, (axI 9)), (.bipush 99, 2, (axI 99)), (.bipush 111, 2, (axI 111)), (.bipush 105, 2, (axI 105)), (.bipush 110, 2, (axI 110)), (.bipush 115, 2, (axI 115))] (pc' := 66) (L' := [some (aR 12 0 0), some (aI v1), some (aI v2), none]) (stk' := [aI 115, aI 110, aI 105, aI 111, aI 99, aI 9, aI v2, aR 12 0 0]) (σ' := σ) (g := []) (by decide +kernel) rfl rfl ?_
    obtain ⟨r9, σ8, h7, h⟩ := bnd_some h
    refine aw_cS (P' := pX12_w5) (idx := 142) (d' := 4) [aI 99, aI 111, aI 105, aI 110, aI 115] [aI 9, aI v2, aR 12 0 0] (ov := (some (aL r9))) (stk2 := [aL r9, aI 9, aI v2, aR 12 0 0]) okp_X12_w5 (by decide +kernel) ml_RX12_142 tok_X12_w5 nar_X12_w5 (by decide) rfl (Nat.le_of_ble_eq_true rfl) (ok_X12_w5 h7) rfl ?_
    refine aw_seq [(.sipush 9999, 3, (axI 9999))] (pc' := 72) (L' := [some (aR 12 0 0), some (aI v1), some (aI v2), none]) (stk' := [aI 9999, aL r9, aI 9, aI v2, aR 12 0 0]) (σ' := σ8) (g := []) (by decide +kernel) rfl rfl ?_
    obtain ⟨r12, σ11, h10, h⟩ := bnd_some h
    refine aw_cV (P' := pX12_pair) (idx := 230) (d' := 5) (c := 12) (n := 0) (k := 0) [aI v2, aI 9, aL r9, aI 9999] [] (ov := (some (aI r12))) (stk2 := [aI r12]) okp_X12_pair (by decide +kernel) ml_RX12_230 vok_X12_pair (by decide) rfl nar_X12_pair (by decide) rfl (Nat.le_of_ble_eq_true rfl) (ok_X12_pair h10) rfl ?_
    cases h
    exact aw_iret rfl (by decide +kernel)
  rw [if_neg c1] at h
  refine awsw_cons (fun c1 => ?_) (fun c1 => ?_)
  · rw [if_pos c1] at h
    refine aw_seq [(.aload_n 0, 1, ax0), (.iload_n 2, 1, ax0), (.bipush 7, 2, (axI 7)), (.bipush 116, 2, (axI 116)), (.bipush 111, 2, (axI 111))] (pc' := 84) (L' := [some (aR 12 0 0), some (aI v1), some (aI v2), none]) (stk' := [aI 111, aI 116, aI 7, aI v2, aR 12 0 0]) (σ' := σ) (g := []) (by decide +kernel) rfl rfl ?_
    obtain ⟨r15, σ14, h13, h⟩ := bnd_some h
    refine aw_cS (P' := pX12_w2) (idx := 130) (d' := 1) [aI 116, aI 111] [aI 7, aI v2, aR 12 0 0] (ov := (some (aL r15))) (stk2 := [aL r15, aI 7, aI v2, aR 12 0 0]) okp_X12_w2 (by decide +kernel) ml_RX12_130 tok_X12_w2 nar_X12_w2 (by decide) rfl (Nat.le_of_ble_eq_true rfl) (ok_X12_w2 h13) rfl ?_
    refine aw_seq [(.bipush 7, 2, (axI 7))] (pc' := 89) (L' := [some (aR 12 0 0), some (aI v1), some (aI v2), none]) (stk' := [aI 7, aL r15, aI 7, aI v2, aR 12 0 0]) (σ' := σ14) (g := []) (by decide +kernel) rfl rfl ?_
    obtain ⟨r18, σ17, h16, h⟩ := bnd_some h
    refine aw_cV (P' := pX12_pair) (idx := 230) (d' := 5) (c := 12) (n := 0) (k := 0) [aI v2, aI 7, aL r15, aI 7] [] (ov := (some (aI r18))) (stk2 := [aI r18]) okp_X12_pair (by decide +kernel) ml_RX12_230 vok_X12_pair (by decide) rfl nar_X12_pair (by decide) rfl (Nat.le_of_ble_eq_true rfl) (ok_X12_pair h16) rfl ?_
    refine aw_seq [(.istore_n 3, 1, ax0), (.iload_n 3, 1, ax0)] (pc' := 94) (L' := [some (aR 12 0 0), some (aI v1), some (aI v2), some (aI r18)]) (stk' := [aI r18]) (σ' := σ17) (g := []) (by decide +kernel) rfl rfl ?_
    refine aw_if_eq (off := 7) (tgt := 101) (by decide +kernel) (by decide) (fun c1 => ?_) (fun c1 => ?_)
    · rw [if_pos c1] at h
      refine aw_seq [(.aload_n 0, 1, ax0), (.bipush 111, 2, (axI 111)), (.bipush 102, 2, (axI 102))] (pc' := 106) (L' := [some (aR 12 0 0), some (aI v1), some (aI v2), some (aI r18)]) (stk' := [aI 102, aI 111, aR 12 0 0]) (σ' := σ17) (g := []) (by decide +kernel) rfl rfl ?_
      obtain ⟨r21, σ20, h19, h⟩ := bnd_some h
      refine aw_cS (P' := pX12_w2) (idx := 130) (d' := 1) [aI 111, aI 102] [aR 12 0 0] (ov := (some (aL r21))) (stk2 := [aL r21, aR 12 0 0]) okp_X12_w2 (by decide +kernel) ml_RX12_130 tok_X12_w2 nar_X12_w2 (by decide) rfl (Nat.le_of_ble_eq_true rfl) (ok_X12_w2 h19) rfl ?_
      refine aw_seq [(.iload_n 2, 1, ax0), (.iconst 3, 1, (axI 3)), (.iadd, 1, ax0), (.bipush 99, 2, (axI 99))] (pc' := 114) (L' := [some (aR 12 0 0), some (aI v1), some (aI v2), some (aI r18)]) (stk' := [aI 99, aI (v2 + 3), aL r21, aR 12 0 0]) (σ' := σ20) (g := []) (by decide +kernel) rfl rfl ?_
      obtain ⟨r24, σ23, h22, h⟩ := bnd_some h
      refine aw_cV (P' := pX12_worded) (idx := 226) (d' := 4) (c := 12) (n := 0) (k := 0) [aL r21, aI (v2 + 3), aI 99] [] (ov := (some (aI r24))) (stk2 := [aI r24]) okp_X12_worded (by decide +kernel) ml_RX12_226 vok_X12_worded (by decide) rfl nar_X12_worded (by decide) rfl (Nat.le_of_ble_eq_true rfl) (ok_X12_worded h22) rfl ?_
      refine aw_forget (L' := [none, none, none, none]) (lsub_n (lsub_n (lsub_n (lsub_n (lsub_0))))) ?_
      exact ok_X12_body_117 r24 σ23 _ h
    · rw [if_neg c1] at h
      refine aw_seq [(.iload_n 3, 1, ax0)] (pc' := 98) (L' := [some (aR 12 0 0), some (aI v1), some (aI v2), some (aI r18)]) (stk' := [aI r18]) (σ' := σ17) (g := []) (by decide +kernel) rfl rfl ?_
      refine aw_goto (off := 19) (tgt := 117) (by decide +kernel) (by decide) ?_
      refine aw_forget (L' := [none, none, none, none]) (lsub_n (lsub_n (lsub_n (lsub_n (lsub_0))))) ?_
      exact ok_X12_body_117 r18 σ17 _ h
  rw [if_neg c1] at h
  refine awsw_cons (fun c1 => ?_) (fun c1 => ?_)
  · rw [if_pos c1] at h
    refine aw_forget (L' := [some (aR 12 0 0), some (aI v1), some (aI v2), none]) (lsub_s (lsub_s (lsub_s (lsub_n (lsub_0))))) ?_
    exact ok_X12_body_150 v1 v2 σ _ h
  rw [if_neg c1] at h
  refine awsw_cons (fun c1 => ?_) (fun c1 => ?_)
  · rw [if_pos c1] at h
    refine aw_forget (L' := [some (aR 12 0 0), some (aI v1), some (aI v2), none]) (lsub_s (lsub_s (lsub_s (lsub_n (lsub_0))))) ?_
    exact ok_X12_body_150 v1 v2 σ _ h
  rw [if_neg c1] at h
  refine awsw_cons (fun c1 => ?_) (fun c1 => ?_)
  · rw [if_pos c1] at h
    refine aw_forget (L' := [some (aR 12 0 0), some (aI v1), some (aI v2), none]) (lsub_s (lsub_s (lsub_s (lsub_n (lsub_0))))) ?_
    exact ok_X12_body_150 v1 v2 σ _ h
  rw [if_neg c1] at h
  refine awsw_cons (fun c1 => ?_) (fun c1 => ?_)
  · rw [if_pos c1] at h
    refine aw_seq [(.aload_n 0, 1, ax0), (.iload_n 2, 1, ax0), (.bipush 7, 2, (axI 7)), (.bipush 102, 2, (axI 102)), (.bipush 114, 2, (axI 114)), (.bipush 111, 2, (axI 111)), (.bipush 109, 2, (axI 109))] (pc' := 130) (L' := [some (aR 12 0 0), some (aI v1), some (aI v2), none]) (stk' := [aI 109, aI 111, aI 114, aI 102, aI 7, aI v2, aR 12 0 0]) (σ' := σ) (g := []) (by decide +kernel) rfl rfl ?_
    obtain ⟨r27, σ26, h25, h⟩ := bnd_some h
    refine aw_cS (P' := pX12_w4) (idx := 138) (d' := 3) [aI 102, aI 114, aI 111, aI 109] [aI 7, aI v2, aR 12 0 0] (ov := (some (aL r27))) (stk2 := [aL r27, aI 7, aI v2, aR 12 0 0]) okp_X12_w4 (by decide +kernel) ml_RX12_138 tok_X12_w4 nar_X12_w4 (by decide) rfl (Nat.le_of_ble_eq_true rfl) (ok_X12_w4 h25) rfl ?_
    refine aw_seq [(.bipush 7, 2, (axI 7))] (pc' := 135) (L' := [some (aR 12 0 0), some (aI v1), some (aI v2), none]) (stk' := [aI 7, aL r27, aI 7, aI v2, aR 12 0 0]) (σ' := σ26) (g := []) (by decide +kernel) rfl rfl ?_
    obtain ⟨r30, σ29, h28, h⟩ := bnd_some h
    refine aw_cV (P' := pX12_pair) (idx := 230) (d' := 5) (c := 12) (n := 0) (k := 0) [aI v2, aI 7, aL r27, aI 7] [] (ov := (some (aI r30))) (stk2 := [aI r30]) okp_X12_pair (by decide +kernel) ml_RX12_230 vok_X12_pair (by decide) rfl nar_X12_pair (by decide) rfl (Nat.le_of_ble_eq_true rfl) (ok_X12_pair h28) rfl ?_
    cases h
    exact aw_iret rfl (by decide +kernel)
  rw [if_neg c1] at h
  refine awsw_cons (fun c1 => ?_) (fun c1 => ?_)
  · rw [if_pos c1] at h
    refine aw_forget (L' := [some (aR 12 0 0), some (aI v1), some (aI v2), none]) (lsub_s (lsub_s (lsub_s (lsub_n (lsub_0))))) ?_
    exact ok_X12_body_150 v1 v2 σ _ h
  rw [if_neg c1] at h
  refine awsw_cons (fun c1 => ?_) (fun c1 => ?_)
  · rw [if_pos c1] at h
    refine aw_forget (L' := [some (aR 12 0 0), some (aI v1), some (aI v2), none]) (lsub_s (lsub_s (lsub_s (lsub_n (lsub_0))))) ?_
    exact ok_X12_body_150 v1 v2 σ _ h
  rw [if_neg c1] at h
  refine awsw_cons (fun c1 => ?_) (fun c1 => ?_)
  · rw [if_pos c1] at h
    refine aw_seq [(.aload_n 0, 1, ax0), (.iload_n 2, 1, ax0), (.iconst 1, 1, (axI 1)), (.iadd, 1, ax0), (.iconst 1, 1, (axI 1)), (.bipush 60, 2, (axI 60))] (pc' := 146) (L' := [some (aR 12 0 0), some (aI v1), some (aI v2), none]) (stk' := [aI 60, aI 1, aI (v2 + 1), aR 12 0 0]) (σ' := σ) (g := []) (by decide +kernel) rfl rfl ?_
    obtain ⟨r33, σ32, h31, h⟩ := bnd_some h
    refine aw_cV (P' := pX12_figure) (idx := 219) (d' := 3) (c := 12) (n := 0) (k := 0) [aI (v2 + 1), aI 1, aI 60] [] (ov := (some (aI r33))) (stk2 := [aI r33]) okp_X12_figure (by decide +kernel) ml_RX12_219 vok_X12_figure (by decide) rfl nar_X12_figure (by decide) rfl (Nat.le_of_ble_eq_true rfl) (ok_X12_figure h31) rfl ?_
    cases h
    exact aw_iret rfl (by decide +kernel)
  rw [if_neg c1] at h
  refine awsw_nil ?_
  refine aw_forget (L' := [some (aR 12 0 0), some (aI v1), some (aI v2), none]) (lsub_s (lsub_s (lsub_s (lsub_n (lsub_0))))) ?_
  exact ok_X12_body_150 v1 v2 σ _ h
def f_X12_isSpreads_130   (s0 : Int32) (σ : Sg) : Option (Int32 × Sg) :=
  grd (bz s0) <| some (s0, σ)
set_option maxRecDepth 100000 in
set_option maxHeartbeats 4000000 in
theorem ok_X12_isSpreads_130 {κ : Kd}    : ∀ (s0 : Int32) (σ : Sg) (q : (Int32 × Sg)), f_X12_isSpreads_130 s0 σ = some q → AW κ pX12_isSpreads 4 (some (aI q.1), q.2) 130 [none] [aI s0] σ := by
  intro s0 σ q h
  unfold f_X12_isSpreads_130 at h
  obtain ⟨hg, h⟩ := grd_some h
  cases h
  exact aw_zret rfl hg (by decide +kernel)
def f_X12_isSpreads_129    (σ : Sg) : Option (Int32 × Sg) :=
  f_X12_isSpreads_130 0 σ
set_option maxRecDepth 100000 in
set_option maxHeartbeats 4000000 in
theorem ok_X12_isSpreads_129 {κ : Kd}    : ∀  (σ : Sg) (q : (Int32 × Sg)), f_X12_isSpreads_129  σ = some q → AW κ pX12_isSpreads 4 (some (aI q.1), q.2) 129 [none] [] σ := by
  intro  σ q h
  unfold f_X12_isSpreads_129 at h
  refine aw_seq [(.iconst 0, 1, (axI 0))] (pc' := 130) (L' := [none]) (stk' := [aI 0]) (σ' := σ) (g := []) (by decide +kernel) rfl rfl ?_
  refine aw_forget (L' := [none]) (lsub_n (lsub_0)) ?_
  exact ok_X12_isSpreads_130 0 σ _ h
def f_X12_isSpreads  (σ : Sg) : Option (Int32 × Sg) :=
  if (σ.1 0 9) = 2 then (
    if ((σ.1 0 7) - (σ.1 0 8)) = 7 then (
      bnd (f_X12_byteAt (σ.1 0 8) σ) fun r3 σ2 =>
      bnd (f_X12_byteAt ((σ2.1 0 8) + 1) σ2) fun r6 σ5 =>
      bnd (f_X12_byteAt ((σ5.1 0 8) + 2) σ5) fun r9 σ8 =>
      bnd (f_X12_byteAt ((σ8.1 0 8) + 3) σ8) fun r12 σ11 =>
      bnd (f_X12_w4 r3 r6 r9 r12 σ11) fun r15 σ14 =>
      bnd (f_X12_w4 115 112 114 101 σ14) fun r18 σ17 =>
      if (lg_cmp r15 r18) = 0 then (
        bnd (f_X12_byteAt ((σ17.1 0 8) + 4) σ17) fun r21 σ20 =>
        bnd (f_X12_byteAt ((σ20.1 0 8) + 5) σ20) fun r24 σ23 =>
        bnd (f_X12_byteAt ((σ23.1 0 8) + 6) σ23) fun r27 σ26 =>
        bnd (f_X12_w3 r21 r24 r27 σ26) fun r30 σ29 =>
        bnd (f_X12_w3 97 100 115 σ29) fun r33 σ32 =>
        if (lg_cmp r30 r33) = 0 then (
          f_X12_isSpreads_130 1 σ32
        ) else (
          f_X12_isSpreads_129 σ32
        )
      ) else (
        f_X12_isSpreads_129 σ17
      )
    ) else (
      f_X12_isSpreads_129 σ
    )
  ) else (
    f_X12_isSpreads_129 σ
  )
set_option maxRecDepth 100000 in
set_option maxHeartbeats 4000000 in
theorem ok_X12_isSpreads {κ : Kd}  {σ : Sg} {q : (Int32 × Sg)} (h : f_X12_isSpreads σ = some q) : AMet κ pX12_isSpreads 4 [aR 12 0 0] σ (some (aI q.1), q.2) := by
  unfold f_X12_isSpreads at h
  refine amet_of okp_X12_isSpreads [(false, aR 12 0 0)] (List.forall_mem_cons.mpr ⟨rfl, (fun _ hn => absurd hn List.not_mem_nil)⟩) 0 rfl ?_
  show AW κ pX12_isSpreads 4 (some (aI q.1), q.2) 0 [some (aR 12 0 0)] [] σ
  refine aw_seq [(.aload_n 0, 1, ax0), (.getfield 108, 3, (axF 12 9 (0, 0, 0, none))), (.iconst 2, 1, (axI 2))] (pc' := 5) (L' := [some (aR 12 0 0)]) (stk' := [aI 2, aI (σ.1 0 9)]) (σ' := σ) (g := []) (by decide +kernel) rfl rfl ?_
  refine aw_icmp_ne (off := 124) (tgt := 129) (by decide +kernel) (by decide) (fun c1 => ?_) (fun c1 => ?_)
  · rw [if_neg c1] at h
    refine aw_forget (L' := [none]) (lsub_n (lsub_0)) ?_
    exact ok_X12_isSpreads_129 σ _ h
  · rw [if_pos c1] at h
    refine aw_seq [(.aload_n 0, 1, ax0), (.getfield 98, 3, (axF 12 7 (0, 0, 0, none))), (.aload_n 0, 1, ax0), (.getfield 105, 3, (axF 12 8 (0, 0, 0, none))), (.isub, 1, ax0), (.bipush 7, 2, (axI 7))] (pc' := 19) (L' := [some (aR 12 0 0)]) (stk' := [aI 7, aI ((σ.1 0 7) - (σ.1 0 8))]) (σ' := σ) (g := []) (by decide +kernel) rfl rfl ?_
    refine aw_icmp_ne (off := 110) (tgt := 129) (by decide +kernel) (by decide) (fun c1 => ?_) (fun c1 => ?_)
    · rw [if_neg c1] at h
      refine aw_forget (L' := [none]) (lsub_n (lsub_0)) ?_
      exact ok_X12_isSpreads_129 σ _ h
    · rw [if_pos c1] at h
      refine aw_seq [(.aload_n 0, 1, ax0), (.aload_n 0, 1, ax0), (.getfield 105, 3, (axF 12 8 (0, 0, 0, none)))] (pc' := 27) (L' := [some (aR 12 0 0)]) (stk' := [aI (σ.1 0 8), aR 12 0 0]) (σ' := σ) (g := []) (by decide +kernel) rfl rfl ?_
      obtain ⟨r3, σ2, h1, h⟩ := bnd_some h
      refine aw_cV (P' := pX12_byteAt) (idx := 101) (d' := 1) (c := 12) (n := 0) (k := 0) [aI (σ.1 0 8)] [] (ov := (some (aI r3))) (stk2 := [aI r3]) okp_X12_byteAt (by decide +kernel) ml_RX12_101 vok_X12_byteAt (by decide) rfl nar_X12_byteAt (by decide) rfl (Nat.le_of_ble_eq_true rfl) (ok_X12_byteAt h1) rfl ?_
      refine aw_seq [(.aload_n 0, 1, ax0), (.aload_n 0, 1, ax0), (.getfield 105, 3, (axF 12 8 (0, 0, 0, none))), (.iconst 1, 1, (axI 1)), (.iadd, 1, ax0)] (pc' := 37) (L' := [some (aR 12 0 0)]) (stk' := [aI ((σ2.1 0 8) + 1), aR 12 0 0, aI r3]) (σ' := σ2) (g := []) (by decide +kernel) rfl rfl ?_
      obtain ⟨r6, σ5, h4, h⟩ := bnd_some h
      refine aw_cV (P' := pX12_byteAt) (idx := 101) (d' := 1) (c := 12) (n := 0) (k := 0) [aI ((σ2.1 0 8) + 1)] [aI r3] (ov := (some (aI r6))) (stk2 := [aI r6, aI r3]) okp_X12_byteAt (by decide +kernel) ml_RX12_101 vok_X12_byteAt (by decide) rfl nar_X12_byteAt (by decide) rfl (Nat.le_of_ble_eq_true rfl) (ok_X12_byteAt h4) rfl ?_
      refine aw_seq [(.aload_n 0, 1, ax0), (.aload_n 0, 1, ax0), (.getfield 105, 3, (axF 12 8 (0, 0, 0, none))), (.iconst 2, 1, (axI 2)), (.iadd, 1, ax0)] (pc' := 47) (L' := [some (aR 12 0 0)]) (stk' := [aI ((σ5.1 0 8) + 2), aR 12 0 0, aI r6, aI r3]) (σ' := σ5) (g := []) (by decide +kernel) rfl rfl ?_
      obtain ⟨r9, σ8, h7, h⟩ := bnd_some h
      refine aw_cV (P' := pX12_byteAt) (idx := 101) (d' := 1) (c := 12) (n := 0) (k := 0) [aI ((σ5.1 0 8) + 2)] [aI r6, aI r3] (ov := (some (aI r9))) (stk2 := [aI r9, aI r6, aI r3]) okp_X12_byteAt (by decide +kernel) ml_RX12_101 vok_X12_byteAt (by decide) rfl nar_X12_byteAt (by decide) rfl (Nat.le_of_ble_eq_true rfl) (ok_X12_byteAt h7) rfl ?_
      refine aw_seq [(.aload_n 0, 1, ax0), (.aload_n 0, 1, ax0), (.getfield 105, 3, (axF 12 8 (0, 0, 0, none))), (.iconst 3, 1, (axI 3)), (.iadd, 1, ax0)] (pc' := 57) (L' := [some (aR 12 0 0)]) (stk' := [aI ((σ8.1 0 8) + 3), aR 12 0 0, aI r9, aI r6, aI r3]) (σ' := σ8) (g := []) (by decide +kernel) rfl rfl ?_
      obtain ⟨r12, σ11, h10, h⟩ := bnd_some h
      refine aw_cV (P' := pX12_byteAt) (idx := 101) (d' := 1) (c := 12) (n := 0) (k := 0) [aI ((σ8.1 0 8) + 3)] [aI r9, aI r6, aI r3] (ov := (some (aI r12))) (stk2 := [aI r12, aI r9, aI r6, aI r3]) okp_X12_byteAt (by decide +kernel) ml_RX12_101 vok_X12_byteAt (by decide) rfl nar_X12_byteAt (by decide) rfl (Nat.le_of_ble_eq_true rfl) (ok_X12_byteAt h10) rfl ?_
      obtain ⟨r15, σ14, h13, h⟩ := bnd_some h
      refine aw_cS (P' := pX12_w4) (idx := 138) (d' := 3) [aI r3, aI r6, aI r9, aI r12] [] (ov := (some (aL r15))) (stk2 := [aL r15]) okp_X12_w4 (by decide +kernel) ml_RX12_138 tok_X12_w4 nar_X12_w4 (by decide) rfl (Nat.le_of_ble_eq_true rfl) (ok_X12_w4 h13) rfl ?_
      refine aw_seq [(.bipush 115, 2, (axI 115)), (.bipush 112, 2, (axI 112)), (.bipush 114, 2, (axI 114)), (.bipush 101, 2, (axI 101))] (pc' := 71) (L' := [some (aR 12 0 0)]) (stk' := [aI 101, aI 114, aI 112, aI 115, aL r15]) (σ' := σ14) (g := []) (by decide +kernel) rfl rfl ?_
      obtain ⟨r18, σ17, h16, h⟩ := bnd_some h
      refine aw_cS (P' := pX12_w4) (idx := 138) (d' := 3) [aI 115, aI 112, aI 114, aI 101] [aL r15] (ov := (some (aL r18))) (stk2 := [aL r18, aL r15]) okp_X12_w4 (by decide +kernel) ml_RX12_138 tok_X12_w4 nar_X12_w4 (by decide) rfl (Nat.le_of_ble_eq_true rfl) (ok_X12_w4 h16) rfl ?_
      refine aw_seq [(.lcmp, 1, ax0)] (pc' := 75) (L' := [some (aR 12 0 0)]) (stk' := [aI (lg_cmp r15 r18)]) (σ' := σ17) (g := []) (by decide +kernel) rfl rfl ?_
      refine aw_if_ne (off := 54) (tgt := 129) (by decide +kernel) (by decide) (fun c1 => ?_) (fun c1 => ?_)
      · rw [if_neg c1] at h
        refine aw_forget (L' := [none]) (lsub_n (lsub_0)) ?_
        exact ok_X12_isSpreads_129 σ17 _ h
      · rw [if_pos c1] at h
        refine aw_seq [(.aload_n 0, 1, ax0), (.aload_n 0, 1, ax0), (.getfield 105, 3, (axF 12 8 (0, 0, 0, none))), (.iconst 4, 1, (axI 4)), (.iadd, 1, ax0)] (pc' := 85) (L' := [some (aR 12 0 0)]) (stk' := [aI ((σ17.1 0 8) + 4), aR 12 0 0]) (σ' := σ17) (g := []) (by decide +kernel) rfl rfl ?_
        obtain ⟨r21, σ20, h19, h⟩ := bnd_some h
        refine aw_cV (P' := pX12_byteAt) (idx := 101) (d' := 1) (c := 12) (n := 0) (k := 0) [aI ((σ17.1 0 8) + 4)] [] (ov := (some (aI r21))) (stk2 := [aI r21]) okp_X12_byteAt (by decide +kernel) ml_RX12_101 vok_X12_byteAt (by decide) rfl nar_X12_byteAt (by decide) rfl (Nat.le_of_ble_eq_true rfl) (ok_X12_byteAt h19) rfl ?_
        refine aw_seq [(.aload_n 0, 1, ax0), (.aload_n 0, 1, ax0), (.getfield 105, 3, (axF 12 8 (0, 0, 0, none))), (.iconst 5, 1, (axI 5)), (.iadd, 1, ax0)] (pc' := 95) (L' := [some (aR 12 0 0)]) (stk' := [aI ((σ20.1 0 8) + 5), aR 12 0 0, aI r21]) (σ' := σ20) (g := []) (by decide +kernel) rfl rfl ?_
        obtain ⟨r24, σ23, h22, h⟩ := bnd_some h
        refine aw_cV (P' := pX12_byteAt) (idx := 101) (d' := 1) (c := 12) (n := 0) (k := 0) [aI ((σ20.1 0 8) + 5)] [aI r21] (ov := (some (aI r24))) (stk2 := [aI r24, aI r21]) okp_X12_byteAt (by decide +kernel) ml_RX12_101 vok_X12_byteAt (by decide) rfl nar_X12_byteAt (by decide) rfl (Nat.le_of_ble_eq_true rfl) (ok_X12_byteAt h22) rfl ?_
        refine aw_seq [(.aload_n 0, 1, ax0), (.aload_n 0, 1, ax0), (.getfield 105, 3, (axF 12 8 (0, 0, 0, none))), (.bipush 6, 2, (axI 6)), (.iadd, 1, ax0)] (pc' := 106) (L' := [some (aR 12 0 0)]) (stk' := [aI ((σ23.1 0 8) + 6), aR 12 0 0, aI r24, aI r21]) (σ' := σ23) (g := []) (by decide +kernel) rfl rfl ?_
        obtain ⟨r27, σ26, h25, h⟩ := bnd_some h
        refine aw_cV (P' := pX12_byteAt) (idx := 101) (d' := 1) (c := 12) (n := 0) (k := 0) [aI ((σ23.1 0 8) + 6)] [aI r24, aI r21] (ov := (some (aI r27))) (stk2 := [aI r27, aI r24, aI r21]) okp_X12_byteAt (by decide +kernel) ml_RX12_101 vok_X12_byteAt (by decide) rfl nar_X12_byteAt (by decide) rfl (Nat.le_of_ble_eq_true rfl) (ok_X12_byteAt h25) rfl ?_
        obtain ⟨r30, σ29, h28, h⟩ := bnd_some h
        refine aw_cS (P' := pX12_w3) (idx := 134) (d' := 2) [aI r21, aI r24, aI r27] [] (ov := (some (aL r30))) (stk2 := [aL r30]) okp_X12_w3 (by decide +kernel) ml_RX12_134 tok_X12_w3 nar_X12_w3 (by decide) rfl (Nat.le_of_ble_eq_true rfl) (ok_X12_w3 h28) rfl ?_
        refine aw_seq [(.bipush 97, 2, (axI 97)), (.bipush 100, 2, (axI 100)), (.bipush 115, 2, (axI 115))] (pc' := 118) (L' := [some (aR 12 0 0)]) (stk' := [aI 115, aI 100, aI 97, aL r30]) (σ' := σ29) (g := []) (by decide +kernel) rfl rfl ?_
        obtain ⟨r33, σ32, h31, h⟩ := bnd_some h
        refine aw_cS (P' := pX12_w3) (idx := 134) (d' := 2) [aI 97, aI 100, aI 115] [aL r30] (ov := (some (aL r33))) (stk2 := [aL r33, aL r30]) okp_X12_w3 (by decide +kernel) ml_RX12_134 tok_X12_w3 nar_X12_w3 (by decide) rfl (Nat.le_of_ble_eq_true rfl) (ok_X12_w3 h31) rfl ?_
        refine aw_seq [(.lcmp, 1, ax0)] (pc' := 122) (L' := [some (aR 12 0 0)]) (stk' := [aI (lg_cmp r30 r33)]) (σ' := σ32) (g := []) (by decide +kernel) rfl rfl ?_
        refine aw_if_ne (off := 7) (tgt := 129) (by decide +kernel) (by decide) (fun c1 => ?_) (fun c1 => ?_)
        · rw [if_neg c1] at h
          refine aw_forget (L' := [none]) (lsub_n (lsub_0)) ?_
          exact ok_X12_isSpreads_129 σ32 _ h
        · rw [if_pos c1] at h
          refine aw_seq [(.iconst 1, 1, (axI 1))] (pc' := 126) (L' := [some (aR 12 0 0)]) (stk' := [aI 1]) (σ' := σ32) (g := []) (by decide +kernel) rfl rfl ?_
          refine aw_goto (off := 4) (tgt := 130) (by decide +kernel) (by decide) ?_
          refine aw_forget (L' := [none]) (lsub_n (lsub_0)) ?_
          exact ok_X12_isSpreads_130 1 σ32 _ h
def f_X12_sortOf_262   (s0 : Int32) (σ : Sg) : Option (Int32 × Sg) :=
  some (s0, σ)
set_option maxRecDepth 100000 in
set_option maxHeartbeats 4000000 in
theorem ok_X12_sortOf_262 {κ : Kd}    : ∀ (s0 : Int32) (σ : Sg) (q : (Int32 × Sg)), f_X12_sortOf_262 s0 σ = some q → AW κ pX12_sortOf 6 (some (aI q.1), q.2) 262 [none] [aI s0] σ := by
  intro s0 σ q h
  unfold f_X12_sortOf_262 at h
  cases h
  exact aw_iret rfl (by decide +kernel)
def f_X12_sortOf  (σ : Sg) : Option (Int32 × Sg) :=
  bnd (f_X12_w5 99 111 111 108 115 σ) fun r3 σ2 =>
  bnd (f_X12_isWord r3 σ2) fun r6 σ5 =>
  if r6 = 0 then (
    bnd (f_X12_isSpreads σ5) fun r9 σ8 =>
    if r9 = 0 then (
      bnd (f_X12_w4 102 105 110 101 σ8) fun r12 σ11 =>
      bnd (f_X12_isWord r12 σ11) fun r15 σ14 =>
      if r15 = 0 then (
        bnd (f_X12_w5 104 111 117 115 101 σ14) fun r18 σ17 =>
        bnd (f_X12_isWord r18 σ17) fun r21 σ20 =>
        if r21 = 0 then (
          bnd (f_X12_w6 115 116 114 101 101 116 σ20) fun r24 σ23 =>
          bnd (f_X12_isWord r24 σ23) fun r27 σ26 =>
          if r27 = 0 then (
            bnd (f_X12_w5 108 105 103 104 116 σ26) fun r30 σ29 =>
            bnd (f_X12_isWord r30 σ29) fun r33 σ32 =>
            if r33 = 0 then (
              bnd (f_X12_w5 99 111 118 101 114 σ32) fun r36 σ35 =>
              bnd (f_X12_isWord r36 σ35) fun r39 σ38 =>
              if r39 = 0 then (
                bnd (f_X12_w4 111 112 101 110 σ38) fun r42 σ41 =>
                bnd (f_X12_isWord r42 σ41) fun r45 σ44 =>
                if r45 = 0 then (
                  bnd (f_X12_w5 102 101 116 99 104 σ44) fun r48 σ47 =>
                  bnd (f_X12_isWord r48 σ47) fun r51 σ50 =>
                  if r51 = 0 then (
                    bnd (f_X12_w6 113 117 101 110 99 104 σ50) fun r54 σ53 =>
                    bnd (f_X12_isWord r54 σ53) fun r57 σ56 =>
                    if r57 = 0 then (
                      bnd (f_X12_w6 119 97 114 100 101 110 σ56) fun r60 σ59 =>
                      bnd (f_X12_isWord r60 σ59) fun r63 σ62 =>
                      if r63 = 0 then (
                        bnd (f_X12_w4 104 111 117 114 σ62) fun r66 σ65 =>
                        bnd (f_X12_isWord r66 σ65) fun r69 σ68 =>
                        if r69 = 0 then (
                          f_X12_sortOf_262 (-1) σ68
                        ) else (
                          f_X12_sortOf_262 11 σ68
                        )
                      ) else (
                        f_X12_sortOf_262 10 σ62
                      )
                    ) else (
                      some (9, σ56)
                    )
                  ) else (
                    some (8, σ50)
                  )
                ) else (
                  some (7, σ44)
                )
              ) else (
                some (6, σ38)
              )
            ) else (
              some (5, σ32)
            )
          ) else (
            some (4, σ26)
          )
        ) else (
          some (3, σ20)
        )
      ) else (
        some (2, σ14)
      )
    ) else (
      some (1, σ8)
    )
  ) else (
    some (0, σ5)
  )
set_option maxRecDepth 100000 in
set_option maxHeartbeats 4000000 in
theorem ok_X12_sortOf {κ : Kd}  {σ : Sg} {q : (Int32 × Sg)} (h : f_X12_sortOf σ = some q) : AMet κ pX12_sortOf 6 [aR 12 0 0] σ (some (aI q.1), q.2) := by
  unfold f_X12_sortOf at h
  refine amet_of okp_X12_sortOf [(false, aR 12 0 0)] (List.forall_mem_cons.mpr ⟨rfl, (fun _ hn => absurd hn List.not_mem_nil)⟩) 0 rfl ?_
  show AW κ pX12_sortOf 6 (some (aI q.1), q.2) 0 [some (aR 12 0 0)] [] σ
  refine aw_seq [(.aload_n 0, 1, ax0), (.bipush 99, 2, (axI 99)), (.bipush 111, 2, (axI 111)), (.bipush 111, 2, (axI 111)), (.bipush 108, 2, (axI 108)), (.bipush 115, 2, (axI 115))] (pc' := 11) (L' := [some (aR 12 0 0)]) (stk' := [aI 115, aI 108, aI 111, aI 111, aI 99, aR 12 0 0]) (σ' := σ) (g := []) (by decide +kernel) rfl rfl ?_
  obtain ⟨r3, σ2, h1, h⟩ := bnd_some h
  refine aw_cS (P' := pX12_w5) (idx := 142) (d' := 4) [aI 99, aI 111, aI 111, aI 108, aI 115] [aR 12 0 0] (ov := (some (aL r3))) (stk2 := [aL r3, aR 12 0 0]) okp_X12_w5 (by decide +kernel) ml_RX12_142 tok_X12_w5 nar_X12_w5 (by decide) rfl (Nat.le_of_ble_eq_true rfl) (ok_X12_w5 h1) rfl ?_
  obtain ⟨r6, σ5, h4, h⟩ := bnd_some h
  refine aw_cV (P' := pX12_isWord) (idx := 193) (d' := 1) (c := 12) (n := 0) (k := 0) [aL r3] [] (ov := (some (aI r6))) (stk2 := [aI r6]) okp_X12_isWord (by decide +kernel) ml_RX12_193 vok_X12_isWord (by decide) rfl nar_X12_isWord (by decide) rfl (Nat.le_of_ble_eq_true rfl) (ok_X12_isWord h4) rfl ?_
  refine aw_if_eq (off := 5) (tgt := 22) (by decide +kernel) (by decide) (fun c1 => ?_) (fun c1 => ?_)
  · rw [if_pos c1] at h
    refine aw_seq [(.aload_n 0, 1, ax0)] (pc' := 23) (L' := [some (aR 12 0 0)]) (stk' := [aR 12 0 0]) (σ' := σ5) (g := []) (by decide +kernel) rfl rfl ?_
    obtain ⟨r9, σ8, h7, h⟩ := bnd_some h
    refine aw_cV (P' := pX12_isSpreads) (idx := 237) (d' := 4) (c := 12) (n := 0) (k := 0) [] [] (ov := (some (aI r9))) (stk2 := [aI r9]) okp_X12_isSpreads (by decide +kernel) ml_RX12_237 vok_X12_isSpreads (by decide) rfl nar_X12_isSpreads (by decide) rfl (Nat.le_of_ble_eq_true rfl) (ok_X12_isSpreads h7) rfl ?_
    refine aw_if_eq (off := 5) (tgt := 31) (by decide +kernel) (by decide) (fun c1 => ?_) (fun c1 => ?_)
    · rw [if_pos c1] at h
      refine aw_seq [(.aload_n 0, 1, ax0), (.bipush 102, 2, (axI 102)), (.bipush 105, 2, (axI 105)), (.bipush 110, 2, (axI 110)), (.bipush 101, 2, (axI 101))] (pc' := 40) (L' := [some (aR 12 0 0)]) (stk' := [aI 101, aI 110, aI 105, aI 102, aR 12 0 0]) (σ' := σ8) (g := []) (by decide +kernel) rfl rfl ?_
      obtain ⟨r12, σ11, h10, h⟩ := bnd_some h
      refine aw_cS (P' := pX12_w4) (idx := 138) (d' := 3) [aI 102, aI 105, aI 110, aI 101] [aR 12 0 0] (ov := (some (aL r12))) (stk2 := [aL r12, aR 12 0 0]) okp_X12_w4 (by decide +kernel) ml_RX12_138 tok_X12_w4 nar_X12_w4 (by decide) rfl (Nat.le_of_ble_eq_true rfl) (ok_X12_w4 h10) rfl ?_
      obtain ⟨r15, σ14, h13, h⟩ := bnd_some h
      refine aw_cV (P' := pX12_isWord) (idx := 193) (d' := 1) (c := 12) (n := 0) (k := 0) [aL r12] [] (ov := (some (aI r15))) (stk2 := [aI r15]) okp_X12_isWord (by decide +kernel) ml_RX12_193 vok_X12_isWord (by decide) rfl nar_X12_isWord (by decide) rfl (Nat.le_of_ble_eq_true rfl) (ok_X12_isWord h13) rfl ?_
      refine aw_if_eq (off := 5) (tgt := 51) (by decide +kernel) (by decide) (fun c1 => ?_) (fun c1 => ?_)
      · rw [if_pos c1] at h
        refine aw_seq [(.aload_n 0, 1, ax0), (.bipush 104, 2, (axI 104)), (.bipush 111, 2, (axI 111)), (.bipush 117, 2, (axI 117)), (.bipush 115, 2, (axI 115)), (.bipush 101, 2, (axI 101))] (pc' := 62) (L' := [some (aR 12 0 0)]) (stk' := [aI 101, aI 115, aI 117, aI 111, aI 104, aR 12 0 0]) (σ' := σ14) (g := []) (by decide +kernel) rfl rfl ?_
        obtain ⟨r18, σ17, h16, h⟩ := bnd_some h
        refine aw_cS (P' := pX12_w5) (idx := 142) (d' := 4) [aI 104, aI 111, aI 117, aI 115, aI 101] [aR 12 0 0] (ov := (some (aL r18))) (stk2 := [aL r18, aR 12 0 0]) okp_X12_w5 (by decide +kernel) ml_RX12_142 tok_X12_w5 nar_X12_w5 (by decide) rfl (Nat.le_of_ble_eq_true rfl) (ok_X12_w5 h16) rfl ?_
        obtain ⟨r21, σ20, h19, h⟩ := bnd_some h
        refine aw_cV (P' := pX12_isWord) (idx := 193) (d' := 1) (c := 12) (n := 0) (k := 0) [aL r18] [] (ov := (some (aI r21))) (stk2 := [aI r21]) okp_X12_isWord (by decide +kernel) ml_RX12_193 vok_X12_isWord (by decide) rfl nar_X12_isWord (by decide) rfl (Nat.le_of_ble_eq_true rfl) (ok_X12_isWord h19) rfl ?_
        refine aw_if_eq (off := 5) (tgt := 73) (by decide +kernel) (by decide) (fun c1 => ?_) (fun c1 => ?_)
        · rw [if_pos c1] at h
          refine aw_seq [(.aload_n 0, 1, ax0), (.bipush 115, 2, (axI 115)), (.bipush 116, 2, (axI 116)), (.bipush 114, 2, (axI 114)), (.bipush 101, 2, (axI 101)), (.bipush 101, 2, (axI 101)), (.bipush 116, 2, (axI 116))] (pc' := 86) (L' := [some (aR 12 0 0)]) (stk' := [aI 116, aI 101, aI 101, aI 114, aI 116, aI 115, aR 12 0 0]) (σ' := σ20) (g := []) (by decide +kernel) rfl rfl ?_
          obtain ⟨r24, σ23, h22, h⟩ := bnd_some h
          refine aw_cS (P' := pX12_w6) (idx := 240) (d' := 5) [aI 115, aI 116, aI 114, aI 101, aI 101, aI 116] [aR 12 0 0] (ov := (some (aL r24))) (stk2 := [aL r24, aR 12 0 0]) okp_X12_w6 (by decide +kernel) ml_RX12_240 tok_X12_w6 nar_X12_w6 (by decide) rfl (Nat.le_of_ble_eq_true rfl) (ok_X12_w6 h22) rfl ?_
          obtain ⟨r27, σ26, h25, h⟩ := bnd_some h
          refine aw_cV (P' := pX12_isWord) (idx := 193) (d' := 1) (c := 12) (n := 0) (k := 0) [aL r24] [] (ov := (some (aI r27))) (stk2 := [aI r27]) okp_X12_isWord (by decide +kernel) ml_RX12_193 vok_X12_isWord (by decide) rfl nar_X12_isWord (by decide) rfl (Nat.le_of_ble_eq_true rfl) (ok_X12_isWord h25) rfl ?_
          refine aw_if_eq (off := 5) (tgt := 97) (by decide +kernel) (by decide) (fun c1 => ?_) (fun c1 => ?_)
          · rw [if_pos c1] at h
            refine aw_seq [(.aload_n 0, 1, ax0), (.bipush 108, 2, (axI 108)), (.bipush 105, 2, (axI 105)), (.bipush 103, 2, (axI 103)), (.bipush 104, 2, (axI 104)), (.bipush 116, 2, (axI 116))] (pc' := 108) (L' := [some (aR 12 0 0)]) (stk' := [aI 116, aI 104, aI 103, aI 105, aI 108, aR 12 0 0]) (σ' := σ26) (g := []) (by decide +kernel) rfl rfl ?_
            obtain ⟨r30, σ29, h28, h⟩ := bnd_some h
            refine aw_cS (P' := pX12_w5) (idx := 142) (d' := 4) [aI 108, aI 105, aI 103, aI 104, aI 116] [aR 12 0 0] (ov := (some (aL r30))) (stk2 := [aL r30, aR 12 0 0]) okp_X12_w5 (by decide +kernel) ml_RX12_142 tok_X12_w5 nar_X12_w5 (by decide) rfl (Nat.le_of_ble_eq_true rfl) (ok_X12_w5 h28) rfl ?_
            obtain ⟨r33, σ32, h31, h⟩ := bnd_some h
            refine aw_cV (P' := pX12_isWord) (idx := 193) (d' := 1) (c := 12) (n := 0) (k := 0) [aL r30] [] (ov := (some (aI r33))) (stk2 := [aI r33]) okp_X12_isWord (by decide +kernel) ml_RX12_193 vok_X12_isWord (by decide) rfl nar_X12_isWord (by decide) rfl (Nat.le_of_ble_eq_true rfl) (ok_X12_isWord h31) rfl ?_
            refine aw_if_eq (off := 5) (tgt := 119) (by decide +kernel) (by decide) (fun c1 => ?_) (fun c1 => ?_)
            · rw [if_pos c1] at h
              refine aw_seq [(.aload_n 0, 1, ax0), (.bipush 99, 2, (axI 99)), (.bipush 111, 2, (axI 111)), (.bipush 118, 2, (axI 118)), (.bipush 101, 2, (axI 101)), (.bipush 114, 2, (axI 114))] (pc' := 130) (L' := [some (aR 12 0 0)]) (stk' := [aI 114, aI 101, aI 118, aI 111, aI 99, aR 12 0 0]) (σ' := σ32) (g := []) (by decide +kernel) rfl rfl ?_
              obtain ⟨r36, σ35, h34, h⟩ := bnd_some h
              refine aw_cS (P' := pX12_w5) (idx := 142) (d' := 4) [aI 99, aI 111, aI 118, aI 101, aI 114] [aR 12 0 0] (ov := (some (aL r36))) (stk2 := [aL r36, aR 12 0 0]) okp_X12_w5 (by decide +kernel) ml_RX12_142 tok_X12_w5 nar_X12_w5 (by decide) rfl (Nat.le_of_ble_eq_true rfl) (ok_X12_w5 h34) rfl ?_
              obtain ⟨r39, σ38, h37, h⟩ := bnd_some h
              refine aw_cV (P' := pX12_isWord) (idx := 193) (d' := 1) (c := 12) (n := 0) (k := 0) [aL r36] [] (ov := (some (aI r39))) (stk2 := [aI r39]) okp_X12_isWord (by decide +kernel) ml_RX12_193 vok_X12_isWord (by decide) rfl nar_X12_isWord (by decide) rfl (Nat.le_of_ble_eq_true rfl) (ok_X12_isWord h37) rfl ?_
              refine aw_if_eq (off := 6) (tgt := 142) (by decide +kernel) (by decide) (fun c1 => ?_) (fun c1 => ?_)
              · rw [if_pos c1] at h
                refine aw_seq [(.aload_n 0, 1, ax0), (.bipush 111, 2, (axI 111)), (.bipush 112, 2, (axI 112)), (.bipush 101, 2, (axI 101)), (.bipush 110, 2, (axI 110))] (pc' := 151) (L' := [some (aR 12 0 0)]) (stk' := [aI 110, aI 101, aI 112, aI 111, aR 12 0 0]) (σ' := σ38) (g := []) (by decide +kernel) rfl rfl ?_
                obtain ⟨r42, σ41, h40, h⟩ := bnd_some h
                refine aw_cS (P' := pX12_w4) (idx := 138) (d' := 3) [aI 111, aI 112, aI 101, aI 110] [aR 12 0 0] (ov := (some (aL r42))) (stk2 := [aL r42, aR 12 0 0]) okp_X12_w4 (by decide +kernel) ml_RX12_138 tok_X12_w4 nar_X12_w4 (by decide) rfl (Nat.le_of_ble_eq_true rfl) (ok_X12_w4 h40) rfl ?_
                obtain ⟨r45, σ44, h43, h⟩ := bnd_some h
                refine aw_cV (P' := pX12_isWord) (idx := 193) (d' := 1) (c := 12) (n := 0) (k := 0) [aL r42] [] (ov := (some (aI r45))) (stk2 := [aI r45]) okp_X12_isWord (by decide +kernel) ml_RX12_193 vok_X12_isWord (by decide) rfl nar_X12_isWord (by decide) rfl (Nat.le_of_ble_eq_true rfl) (ok_X12_isWord h43) rfl ?_
                refine aw_if_eq (off := 6) (tgt := 163) (by decide +kernel) (by decide) (fun c1 => ?_) (fun c1 => ?_)
                · rw [if_pos c1] at h
                  refine aw_seq [(.aload_n 0, 1, ax0), (.bipush 102, 2, (axI 102)), (.bipush 101, 2, (axI 101)), (.bipush 116, 2, (axI 116)), (.bipush 99, 2, (axI 99)), (.bipush 104, 2, (axI 104))] (pc' := 174) (L' := [some (aR 12 0 0)]) (stk' := [aI 104, aI 99, aI 116, aI 101, aI 102, aR 12 0 0]) (σ' := σ44) (g := []) (by decide +kernel) rfl rfl ?_
                  obtain ⟨r48, σ47, h46, h⟩ := bnd_some h
                  refine aw_cS (P' := pX12_w5) (idx := 142) (d' := 4) [aI 102, aI 101, aI 116, aI 99, aI 104] [aR 12 0 0] (ov := (some (aL r48))) (stk2 := [aL r48, aR 12 0 0]) okp_X12_w5 (by decide +kernel) ml_RX12_142 tok_X12_w5 nar_X12_w5 (by decide) rfl (Nat.le_of_ble_eq_true rfl) (ok_X12_w5 h46) rfl ?_
                  obtain ⟨r51, σ50, h49, h⟩ := bnd_some h
                  refine aw_cV (P' := pX12_isWord) (idx := 193) (d' := 1) (c := 12) (n := 0) (k := 0) [aL r48] [] (ov := (some (aI r51))) (stk2 := [aI r51]) okp_X12_isWord (by decide +kernel) ml_RX12_193 vok_X12_isWord (by decide) rfl nar_X12_isWord (by decide) rfl (Nat.le_of_ble_eq_true rfl) (ok_X12_isWord h49) rfl ?_
                  refine aw_if_eq (off := 6) (tgt := 186) (by decide +kernel) (by decide) (fun c1 => ?_) (fun c1 => ?_)
                  · rw [if_pos c1] at h
                    refine aw_seq [(.aload_n 0, 1, ax0), (.bipush 113, 2, (axI 113)), (.bipush 117, 2, (axI 117)), (.bipush 101, 2, (axI 101)), (.bipush 110, 2, (axI 110)), (.bipush 99, 2, (axI 99)), (.bipush 104, 2, (axI 104))] (pc' := 199) (L' := [some (aR 12 0 0)]) (stk' := [aI 104, aI 99, aI 110, aI 101, aI 117, aI 113, aR 12 0 0]) (σ' := σ50) (g := []) (by decide +kernel) rfl rfl ?_
                    obtain ⟨r54, σ53, h52, h⟩ := bnd_some h
                    refine aw_cS (P' := pX12_w6) (idx := 240) (d' := 5) [aI 113, aI 117, aI 101, aI 110, aI 99, aI 104] [aR 12 0 0] (ov := (some (aL r54))) (stk2 := [aL r54, aR 12 0 0]) okp_X12_w6 (by decide +kernel) ml_RX12_240 tok_X12_w6 nar_X12_w6 (by decide) rfl (Nat.le_of_ble_eq_true rfl) (ok_X12_w6 h52) rfl ?_
                    obtain ⟨r57, σ56, h55, h⟩ := bnd_some h
                    refine aw_cV (P' := pX12_isWord) (idx := 193) (d' := 1) (c := 12) (n := 0) (k := 0) [aL r54] [] (ov := (some (aI r57))) (stk2 := [aI r57]) okp_X12_isWord (by decide +kernel) ml_RX12_193 vok_X12_isWord (by decide) rfl nar_X12_isWord (by decide) rfl (Nat.le_of_ble_eq_true rfl) (ok_X12_isWord h55) rfl ?_
                    refine aw_if_eq (off := 6) (tgt := 211) (by decide +kernel) (by decide) (fun c1 => ?_) (fun c1 => ?_)
                    · rw [if_pos c1] at h
                      refine aw_seq [(.aload_n 0, 1, ax0), (.bipush 119, 2, (axI 119)), (.bipush 97, 2, (axI 97)), (.bipush 114, 2, (axI 114)), (.bipush 100, 2, (axI 100)), (.bipush 101, 2, (axI 101)), (.bipush 110, 2, (axI 110))] (pc' := 224) (L' := [some (aR 12 0 0)]) (stk' := [aI 110, aI 101, aI 100, aI 114, aI 97, aI 119, aR 12 0 0]) (σ' := σ56) (g := []) (by decide +kernel) rfl rfl ?_
                      obtain ⟨r60, σ59, h58, h⟩ := bnd_some h
                      refine aw_cS (P' := pX12_w6) (idx := 240) (d' := 5) [aI 119, aI 97, aI 114, aI 100, aI 101, aI 110] [aR 12 0 0] (ov := (some (aL r60))) (stk2 := [aL r60, aR 12 0 0]) okp_X12_w6 (by decide +kernel) ml_RX12_240 tok_X12_w6 nar_X12_w6 (by decide) rfl (Nat.le_of_ble_eq_true rfl) (ok_X12_w6 h58) rfl ?_
                      obtain ⟨r63, σ62, h61, h⟩ := bnd_some h
                      refine aw_cV (P' := pX12_isWord) (idx := 193) (d' := 1) (c := 12) (n := 0) (k := 0) [aL r60] [] (ov := (some (aI r63))) (stk2 := [aI r63]) okp_X12_isWord (by decide +kernel) ml_RX12_193 vok_X12_isWord (by decide) rfl nar_X12_isWord (by decide) rfl (Nat.le_of_ble_eq_true rfl) (ok_X12_isWord h61) rfl ?_
                      refine aw_if_eq (off := 8) (tgt := 238) (by decide +kernel) (by decide) (fun c1 => ?_) (fun c1 => ?_)
                      · rw [if_pos c1] at h
                        refine aw_seq [(.aload_n 0, 1, ax0), (.bipush 104, 2, (axI 104)), (.bipush 111, 2, (axI 111)), (.bipush 117, 2, (axI 117)), (.bipush 114, 2, (axI 114))] (pc' := 247) (L' := [some (aR 12 0 0)]) (stk' := [aI 114, aI 117, aI 111, aI 104, aR 12 0 0]) (σ' := σ62) (g := []) (by decide +kernel) rfl rfl ?_
                        obtain ⟨r66, σ65, h64, h⟩ := bnd_some h
                        refine aw_cS (P' := pX12_w4) (idx := 138) (d' := 3) [aI 104, aI 111, aI 117, aI 114] [aR 12 0 0] (ov := (some (aL r66))) (stk2 := [aL r66, aR 12 0 0]) okp_X12_w4 (by decide +kernel) ml_RX12_138 tok_X12_w4 nar_X12_w4 (by decide) rfl (Nat.le_of_ble_eq_true rfl) (ok_X12_w4 h64) rfl ?_
                        obtain ⟨r69, σ68, h67, h⟩ := bnd_some h
                        refine aw_cV (P' := pX12_isWord) (idx := 193) (d' := 1) (c := 12) (n := 0) (k := 0) [aL r66] [] (ov := (some (aI r69))) (stk2 := [aI r69]) okp_X12_isWord (by decide +kernel) ml_RX12_193 vok_X12_isWord (by decide) rfl nar_X12_isWord (by decide) rfl (Nat.le_of_ble_eq_true rfl) (ok_X12_isWord h67) rfl ?_
                        refine aw_if_eq (off := 8) (tgt := 261) (by decide +kernel) (by decide) (fun c1 => ?_) (fun c1 => ?_)
                        · rw [if_pos c1] at h
                          refine aw_seq [(.iconst (-1), 1, (axI (-1)))] (pc' := 262) (L' := [some (aR 12 0 0)]) (stk' := [aI (-1)]) (σ' := σ68) (g := []) (by decide +kernel) rfl rfl ?_
                          refine aw_forget (L' := [none]) (lsub_n (lsub_0)) ?_
                          exact ok_X12_sortOf_262 (-1) σ68 _ h
                        · rw [if_neg c1] at h
                          refine aw_seq [(.bipush 11, 2, (axI 11))] (pc' := 258) (L' := [some (aR 12 0 0)]) (stk' := [aI 11]) (σ' := σ68) (g := []) (by decide +kernel) rfl rfl ?_
                          refine aw_goto (off := 4) (tgt := 262) (by decide +kernel) (by decide) ?_
                          refine aw_forget (L' := [none]) (lsub_n (lsub_0)) ?_
                          exact ok_X12_sortOf_262 11 σ68 _ h
                      · rw [if_neg c1] at h
                        refine aw_seq [(.bipush 10, 2, (axI 10))] (pc' := 235) (L' := [some (aR 12 0 0)]) (stk' := [aI 10]) (σ' := σ62) (g := []) (by decide +kernel) rfl rfl ?_
                        refine aw_goto (off := 27) (tgt := 262) (by decide +kernel) (by decide) ?_
                        refine aw_forget (L' := [none]) (lsub_n (lsub_0)) ?_
                        exact ok_X12_sortOf_262 10 σ62 _ h
                    · rw [if_neg c1] at h
                      refine aw_seq [(.bipush 9, 2, (axI 9))] (pc' := 210) (L' := [some (aR 12 0 0)]) (stk' := [aI 9]) (σ' := σ56) (g := []) (by decide +kernel) rfl rfl ?_
                      cases h
                      exact aw_iret rfl (by decide +kernel)
                  · rw [if_neg c1] at h
                    refine aw_seq [(.bipush 8, 2, (axI 8))] (pc' := 185) (L' := [some (aR 12 0 0)]) (stk' := [aI 8]) (σ' := σ50) (g := []) (by decide +kernel) rfl rfl ?_
                    cases h
                    exact aw_iret rfl (by decide +kernel)
                · rw [if_neg c1] at h
                  refine aw_seq [(.bipush 7, 2, (axI 7))] (pc' := 162) (L' := [some (aR 12 0 0)]) (stk' := [aI 7]) (σ' := σ44) (g := []) (by decide +kernel) rfl rfl ?_
                  cases h
                  exact aw_iret rfl (by decide +kernel)
              · rw [if_neg c1] at h
                refine aw_seq [(.bipush 6, 2, (axI 6))] (pc' := 141) (L' := [some (aR 12 0 0)]) (stk' := [aI 6]) (σ' := σ38) (g := []) (by decide +kernel) rfl rfl ?_
                cases h
                exact aw_iret rfl (by decide +kernel)
            · rw [if_neg c1] at h
              refine aw_seq [(.iconst 5, 1, (axI 5))] (pc' := 118) (L' := [some (aR 12 0 0)]) (stk' := [aI 5]) (σ' := σ32) (g := []) (by decide +kernel) rfl rfl ?_
              cases h
              exact aw_iret rfl (by decide +kernel)
          · rw [if_neg c1] at h
            refine aw_seq [(.iconst 4, 1, (axI 4))] (pc' := 96) (L' := [some (aR 12 0 0)]) (stk' := [aI 4]) (σ' := σ26) (g := []) (by decide +kernel) rfl rfl ?_
            cases h
            exact aw_iret rfl (by decide +kernel)
        · rw [if_neg c1] at h
          refine aw_seq [(.iconst 3, 1, (axI 3))] (pc' := 72) (L' := [some (aR 12 0 0)]) (stk' := [aI 3]) (σ' := σ20) (g := []) (by decide +kernel) rfl rfl ?_
          cases h
          exact aw_iret rfl (by decide +kernel)
      · rw [if_neg c1] at h
        refine aw_seq [(.iconst 2, 1, (axI 2))] (pc' := 50) (L' := [some (aR 12 0 0)]) (stk' := [aI 2]) (σ' := σ14) (g := []) (by decide +kernel) rfl rfl ?_
        cases h
        exact aw_iret rfl (by decide +kernel)
    · rw [if_neg c1] at h
      refine aw_seq [(.iconst 1, 1, (axI 1))] (pc' := 30) (L' := [some (aR 12 0 0)]) (stk' := [aI 1]) (σ' := σ8) (g := []) (by decide +kernel) rfl rfl ?_
      cases h
      exact aw_iret rfl (by decide +kernel)
  · rw [if_neg c1] at h
    refine aw_seq [(.iconst 0, 1, (axI 0))] (pc' := 21) (L' := [some (aR 12 0 0)]) (stk' := [aI 0]) (σ' := σ5) (g := []) (by decide +kernel) rfl rfl ?_
    cases h
    exact aw_iret rfl (by decide +kernel)
def f_X12_clause_65   (v1 : Int32) (v2 : Int32) (σ : Sg) : Option (Int32 × Sg) :=
  ltσ (wI σ 0 14 v1) fun σ1 =>
  bndV (f_X12_nextToken σ1) fun σ4 =>
  grd (inb (((σ4.1 0 12) + 1) + (4 * v2)) 2820 && true) <|
  ltσ (wI σ4 3 (ix (((σ4.1 0 12) + 1) + (4 * v2))) v1) fun σ5 =>
  bnd (f_X12_body v1 (((σ4.1 0 12) + 1) + (4 * v2)) σ5) fun r9 σ8 =>
  if r9 = 0 then (
    grd (inb (σ8.1 0 12) 2820 && (inb (σ8.1 0 12) 2820 && true)) <|
    ltσ (wI σ8 3 (ix (σ8.1 0 12)) ((σ8.1 3 (ix (σ8.1 0 12))) + 1)) fun σ10 =>
    if (σ10.1 0 9) = 59 then (
      bndV (f_X12_nextToken σ10) fun σ13 =>
      some (0, σ13)
    ) else (
      some (1, σ10)
    )
  ) else (
    some (r9, σ8)
  )
set_option maxRecDepth 100000 in
set_option maxHeartbeats 4000000 in
theorem ok_X12_clause_65 {κ : Kd}    : ∀ (v1 : Int32) (v2 : Int32) (σ : Sg) (q : (Int32 × Sg)), f_X12_clause_65 v1 v2 σ = some q → AW κ pX12_clause 10 (some (aI q.1), q.2) 65 [some (aR 12 0 0), some (aI v1), some (aI v2), none, none] [] σ := by
  intro v1 v2 σ q h
  unfold f_X12_clause_65 at h
  obtain ⟨σ1, e2, h⟩ := ltσ_some h
  refine aw_seq [(.aload_n 0, 1, ax0), (.iload_n 1, 1, ax0), (.putfield 181, 3, (axF 12 14 (0, 0, 0, none)))] (pc' := 70) (L' := [some (aR 12 0 0), some (aI v1), some (aI v2), none, none]) (stk' := []) (σ' := σ1) (g := []) (by decide +kernel) (by rw [e2]; rfl) rfl ?_
  refine aw_seq [(.aload_n 0, 1, ax0)] (pc' := 71) (L' := [some (aR 12 0 0), some (aI v1), some (aI v2), none, none]) (stk' := [aR 12 0 0]) (σ' := σ1) (g := []) (by decide +kernel) rfl rfl ?_
  obtain ⟨σ4, h3, h⟩ := bndV_some h
  refine aw_cV (P' := pX12_nextToken) (idx := 175) (d' := 2) (c := 12) (n := 0) (k := 0) [] [] (ov := none) (stk2 := []) okp_X12_nextToken (by decide +kernel) ml_RX12_175 vok_X12_nextToken (by decide) rfl nar_X12_nextToken (by decide) rfl (Nat.le_of_ble_eq_true rfl) (ok_X12_nextToken h3) rfl ?_
  obtain ⟨hg, h⟩ := grd_some h
  obtain ⟨σ5, e6, h⟩ := ltσ_some h
  refine aw_seq [(.aload_n 0, 1, ax0), (.getfield 146, 3, (axF 12 12 (0, 0, 0, none))), (.iconst 1, 1, (axI 1)), (.iadd, 1, ax0), (.iconst 4, 1, (axI 4)), (.iload_n 2, 1, ax0), (.imul, 1, ax0), (.iadd, 1, ax0), (.istore_n 3, 1, ax0), (.aload_n 0, 1, ax0), (.getfield 16, 3, (axF 12 2 (2, 3, 13, some 2820))), (.iload_n 3, 1, ax0), (.iload_n 1, 1, ax0), (.iastore, 1, ax0)] (pc' := 92) (L' := [some (aR 12 0 0), some (aI v1), some (aI v2), some (aI (((σ4.1 0 12) + 1) + (4 * v2))), none]) (stk' := []) (σ' := σ5) (g := [inb (((σ4.1 0 12) + 1) + (4 * v2)) 2820]) (by decide +kernel) (by rw [e6]; rfl) hg ?_
  refine aw_seq [(.aload_n 0, 1, ax0), (.iload_n 1, 1, ax0), (.iload_n 3, 1, ax0)] (pc' := 95) (L' := [some (aR 12 0 0), some (aI v1), some (aI v2), some (aI (((σ4.1 0 12) + 1) + (4 * v2))), none]) (stk' := [aI (((σ4.1 0 12) + 1) + (4 * v2)), aI v1, aR 12 0 0]) (σ' := σ5) (g := []) (by decide +kernel) rfl rfl ?_
  obtain ⟨r9, σ8, h7, h⟩ := bnd_some h
  refine aw_cV (P' := pX12_body) (idx := 254) (d' := 9) (c := 12) (n := 0) (k := 0) [aI v1, aI (((σ4.1 0 12) + 1) + (4 * v2))] [] (ov := (some (aI r9))) (stk2 := [aI r9]) okp_X12_body (by decide +kernel) ml_RX12_254 vok_X12_body (by decide) rfl nar_X12_body (by decide) rfl (Nat.le_of_ble_eq_true rfl) (ok_X12_body h7) rfl ?_
  refine aw_seq [(.istore 4, 2, ax0), (.iload 4, 2, ax0)] (pc' := 102) (L' := [some (aR 12 0 0), some (aI v1), some (aI v2), some (aI (((σ4.1 0 12) + 1) + (4 * v2))), some (aI r9)]) (stk' := [aI r9]) (σ' := σ8) (g := []) (by decide +kernel) rfl rfl ?_
  refine aw_if_eq (off := 6) (tgt := 108) (by decide +kernel) (by decide) (fun c1 => ?_) (fun c1 => ?_)
  · rw [if_pos c1] at h
    obtain ⟨hg, h⟩ := grd_some h
    obtain ⟨σ10, e11, h⟩ := ltσ_some h
    refine aw_seq [(.aload_n 0, 1, ax0), (.getfield 16, 3, (axF 12 2 (2, 3, 13, some 2820))), (.aload_n 0, 1, ax0), (.getfield 146, 3, (axF 12 12 (0, 0, 0, none))), (.dup2, 1, ax0), (.iaload, 1, ax0), (.iconst 1, 1, (axI 1)), (.iadd, 1, ax0), (.iastore, 1, ax0)] (pc' := 121) (L' := [some (aR 12 0 0), some (aI v1), some (aI v2), some (aI (((σ4.1 0 12) + 1) + (4 * v2))), some (aI r9)]) (stk' := []) (σ' := σ10) (g := [inb (σ8.1 0 12) 2820, inb (σ8.1 0 12) 2820]) (by decide +kernel) (by rw [e11]; rfl) hg ?_
    refine aw_seq [(.aload_n 0, 1, ax0), (.getfield 108, 3, (axF 12 9 (0, 0, 0, none))), (.bipush 59, 2, (axI 59))] (pc' := 127) (L' := [some (aR 12 0 0), some (aI v1), some (aI v2), some (aI (((σ4.1 0 12) + 1) + (4 * v2))), some (aI r9)]) (stk' := [aI 59, aI (σ10.1 0 9)]) (σ' := σ10) (g := []) (by decide +kernel) rfl rfl ?_
    refine aw_icmp_eq (off := 5) (tgt := 132) (by decide +kernel) (by decide) (fun c1 => ?_) (fun c1 => ?_)
    · rw [if_pos c1] at h
      refine aw_seq [(.aload_n 0, 1, ax0)] (pc' := 133) (L' := [some (aR 12 0 0), some (aI v1), some (aI v2), some (aI (((σ4.1 0 12) + 1) + (4 * v2))), some (aI r9)]) (stk' := [aR 12 0 0]) (σ' := σ10) (g := []) (by decide +kernel) rfl rfl ?_
      obtain ⟨σ13, h12, h⟩ := bndV_some h
      refine aw_cV (P' := pX12_nextToken) (idx := 175) (d' := 2) (c := 12) (n := 0) (k := 0) [] [] (ov := none) (stk2 := []) okp_X12_nextToken (by decide +kernel) ml_RX12_175 vok_X12_nextToken (by decide) rfl nar_X12_nextToken (by decide) rfl (Nat.le_of_ble_eq_true rfl) (ok_X12_nextToken h12) rfl ?_
      refine aw_seq [(.iconst 0, 1, (axI 0))] (pc' := 137) (L' := [some (aR 12 0 0), some (aI v1), some (aI v2), some (aI (((σ4.1 0 12) + 1) + (4 * v2))), some (aI r9)]) (stk' := [aI 0]) (σ' := σ13) (g := []) (by decide +kernel) rfl rfl ?_
      cases h
      exact aw_iret rfl (by decide +kernel)
    · rw [if_neg c1] at h
      refine aw_seq [(.iconst 1, 1, (axI 1))] (pc' := 131) (L' := [some (aR 12 0 0), some (aI v1), some (aI v2), some (aI (((σ4.1 0 12) + 1) + (4 * v2))), some (aI r9)]) (stk' := [aI 1]) (σ' := σ10) (g := []) (by decide +kernel) rfl rfl ?_
      cases h
      exact aw_iret rfl (by decide +kernel)
  · rw [if_neg c1] at h
    refine aw_seq [(.iload 4, 2, ax0)] (pc' := 107) (L' := [some (aR 12 0 0), some (aI v1), some (aI v2), some (aI (((σ4.1 0 12) + 1) + (4 * v2))), some (aI r9)]) (stk' := [aI r9]) (σ' := σ8) (g := []) (by decide +kernel) rfl rfl ?_
    cases h
    exact aw_iret rfl (by decide +kernel)
def f_X12_clause_29   (v1 : Int32) (σ : Sg) : Option (Int32 × Sg) :=
  grd (inb (σ.1 0 12) 2820 && true) <|
  if (σ.1 3 (ix (σ.1 0 12))) = 24 then (
    some (6, σ)
  ) else (
    if 2 < v1 then (
      f_X12_clause_65 v1 (σ.1 3 (ix (σ.1 0 12))) σ
    ) else (
      ltσ (wI σ 0 19 ((σ.1 0 19) ||| (shl 1 v1))) fun σ14 =>
      f_X12_clause_65 v1 (σ.1 3 (ix (σ.1 0 12))) σ14
    )
  )
set_option maxRecDepth 100000 in
set_option maxHeartbeats 4000000 in
theorem ok_X12_clause_29 {κ : Kd}    : ∀ (v1 : Int32) (σ : Sg) (q : (Int32 × Sg)), f_X12_clause_29 v1 σ = some q → AW κ pX12_clause 10 (some (aI q.1), q.2) 29 [some (aR 12 0 0), some (aI v1), none, none, none] [] σ := by
  intro v1 σ q h
  unfold f_X12_clause_29 at h
  obtain ⟨hg, h⟩ := grd_some h
  refine aw_seq [(.aload_n 0, 1, ax0), (.getfield 16, 3, (axF 12 2 (2, 3, 13, some 2820))), (.aload_n 0, 1, ax0), (.getfield 146, 3, (axF 12 12 (0, 0, 0, none))), (.iaload, 1, ax0), (.istore_n 2, 1, ax0), (.iload_n 2, 1, ax0), (.bipush 24, 2, (axI 24))] (pc' := 42) (L' := [some (aR 12 0 0), some (aI v1), some (aI (σ.1 3 (ix (σ.1 0 12)))), none, none]) (stk' := [aI 24, aI (σ.1 3 (ix (σ.1 0 12)))]) (σ' := σ) (g := [inb (σ.1 0 12) 2820]) (by decide +kernel) rfl hg ?_
  refine aw_icmp_ne (off := 6) (tgt := 48) (by decide +kernel) (by decide) (fun c1 => ?_) (fun c1 => ?_)
  · rw [if_neg c1] at h
    refine aw_seq [(.iload_n 1, 1, ax0), (.iconst 2, 1, (axI 2))] (pc' := 50) (L' := [some (aR 12 0 0), some (aI v1), some (aI (σ.1 3 (ix (σ.1 0 12)))), none, none]) (stk' := [aI 2, aI v1]) (σ' := σ) (g := []) (by decide +kernel) rfl rfl ?_
    refine aw_icmp_gt (off := 15) (tgt := 65) (by decide +kernel) (by decide) (fun c1 => ?_) (fun c1 => ?_)
    · rw [if_pos c1] at h
      refine aw_forget (L' := [some (aR 12 0 0), some (aI v1), some (aI (σ.1 3 (ix (σ.1 0 12)))), none, none]) (lsub_s (lsub_s (lsub_s (lsub_n (lsub_n (lsub_0)))))) ?_
      exact ok_X12_clause_65 v1 (σ.1 3 (ix (σ.1 0 12))) σ _ h
    · rw [if_neg c1] at h
      obtain ⟨σ14, e15, h⟩ := ltσ_some h
      refine aw_seq [(.aload_n 0, 1, ax0), (.dup, 1, ax0), (.getfield 247, 3, (axF 12 19 (0, 0, 0, none))), (.iconst 1, 1, (axI 1)), (.iload_n 1, 1, ax0), (.ishl, 1, ax0), (.ior, 1, ax0), (.putfield 247, 3, (axF 12 19 (0, 0, 0, none)))] (pc' := 65) (L' := [some (aR 12 0 0), some (aI v1), some (aI (σ.1 3 (ix (σ.1 0 12)))), none, none]) (stk' := []) (σ' := σ14) (g := []) (by decide +kernel) (by rw [e15]; rfl) rfl ?_
      refine aw_forget (L' := [some (aR 12 0 0), some (aI v1), some (aI (σ.1 3 (ix (σ.1 0 12)))), none, none]) (lsub_s (lsub_s (lsub_s (lsub_n (lsub_n (lsub_0)))))) ?_
      exact ok_X12_clause_65 v1 (σ.1 3 (ix (σ.1 0 12))) σ14 _ h
  · rw [if_pos c1] at h
    refine aw_seq [(.bipush 6, 2, (axI 6))] (pc' := 47) (L' := [some (aR 12 0 0), some (aI v1), some (aI (σ.1 3 (ix (σ.1 0 12)))), none, none]) (stk' := [aI 6]) (σ' := σ) (g := []) (by decide +kernel) rfl rfl ?_
    cases h
    exact aw_iret rfl (by decide +kernel)
def f_X12_clause  (σ : Sg) : Option (Int32 × Sg) :=
  bnd (f_X12_sortOf σ) fun r18 σ17 =>
  if 0 ≤ r18 then (
    if 2 < r18 then (
      f_X12_clause_29 r18 σ17
    ) else (
      bnd (f_X12_has (σ17.1 0 19) r18 σ17) fun r21 σ20 =>
      if r21 = 0 then (
        f_X12_clause_29 r18 σ20
      ) else (
        some (4, σ20)
      )
    )
  ) else (
    some (1, σ17)
  )
set_option maxRecDepth 100000 in
set_option maxHeartbeats 4000000 in
theorem ok_X12_clause {κ : Kd}  {σ : Sg} {q : (Int32 × Sg)} (h : f_X12_clause σ = some q) : AMet κ pX12_clause 10 [aR 12 0 0] σ (some (aI q.1), q.2) := by
  unfold f_X12_clause at h
  refine amet_of okp_X12_clause [(false, aR 12 0 0)] (List.forall_mem_cons.mpr ⟨rfl, (fun _ hn => absurd hn List.not_mem_nil)⟩) 4 rfl ?_
  show AW κ pX12_clause 10 (some (aI q.1), q.2) 0 [some (aR 12 0 0), none, none, none, none] [] σ
  refine aw_seq [(.aload_n 0, 1, ax0)] (pc' := 1) (L' := [some (aR 12 0 0), none, none, none, none]) (stk' := [aR 12 0 0]) (σ' := σ) (g := []) (by decide +kernel) rfl rfl ?_
  obtain ⟨r18, σ17, h16, h⟩ := bnd_some h
  refine aw_cV (P' := pX12_sortOf) (idx := 244) (d' := 6) (c := 12) (n := 0) (k := 0) [] [] (ov := (some (aI r18))) (stk2 := [aI r18]) okp_X12_sortOf (by decide +kernel) ml_RX12_244 vok_X12_sortOf (by decide) rfl nar_X12_sortOf (by decide) rfl (Nat.le_of_ble_eq_true rfl) (ok_X12_sortOf h16) rfl ?_
  refine aw_seq [(.istore_n 1, 1, ax0), (.iload_n 1, 1, ax0)] (pc' := 6) (L' := [some (aR 12 0 0), some (aI r18), none, none, none]) (stk' := [aI r18]) (σ' := σ17) (g := []) (by decide +kernel) rfl rfl ?_
  refine aw_if_ge (off := 5) (tgt := 11) (by decide +kernel) (by decide) (fun c1 => ?_) (fun c1 => ?_)
  · rw [if_pos c1] at h
    refine aw_seq [(.iload_n 1, 1, ax0), (.iconst 2, 1, (axI 2))] (pc' := 13) (L' := [some (aR 12 0 0), some (aI r18), none, none, none]) (stk' := [aI 2, aI r18]) (σ' := σ17) (g := []) (by decide +kernel) rfl rfl ?_
    refine aw_icmp_gt (off := 16) (tgt := 29) (by decide +kernel) (by decide) (fun c1 => ?_) (fun c1 => ?_)
    · rw [if_pos c1] at h
      refine aw_forget (L' := [some (aR 12 0 0), some (aI r18), none, none, none]) (lsub_s (lsub_s (lsub_n (lsub_n (lsub_n (lsub_0)))))) ?_
      exact ok_X12_clause_29 r18 σ17 _ h
    · rw [if_neg c1] at h
      refine aw_seq [(.aload_n 0, 1, ax0), (.getfield 247, 3, (axF 12 19 (0, 0, 0, none))), (.iload_n 1, 1, ax0)] (pc' := 21) (L' := [some (aR 12 0 0), some (aI r18), none, none, none]) (stk' := [aI r18, aI (σ17.1 0 19)]) (σ' := σ17) (g := []) (by decide +kernel) rfl rfl ?_
      obtain ⟨r21, σ20, h19, h⟩ := bnd_some h
      refine aw_cS (P' := pX12_has) (idx := 250) (d' := 1) [aI (σ17.1 0 19), aI r18] [] (ov := (some (aI r21))) (stk2 := [aI r21]) okp_X12_has (by decide +kernel) ml_RX12_250 tok_X12_has nar_X12_has (by decide) rfl (Nat.le_of_ble_eq_true rfl) (ok_X12_has h19) rfl ?_
      refine aw_if_eq (off := 5) (tgt := 29) (by decide +kernel) (by decide) (fun c1 => ?_) (fun c1 => ?_)
      · rw [if_pos c1] at h
        refine aw_forget (L' := [some (aR 12 0 0), some (aI r18), none, none, none]) (lsub_s (lsub_s (lsub_n (lsub_n (lsub_n (lsub_0)))))) ?_
        exact ok_X12_clause_29 r18 σ20 _ h
      · rw [if_neg c1] at h
        refine aw_seq [(.iconst 4, 1, (axI 4))] (pc' := 28) (L' := [some (aR 12 0 0), some (aI r18), none, none, none]) (stk' := [aI 4]) (σ' := σ20) (g := []) (by decide +kernel) rfl rfl ?_
        cases h
        exact aw_iret rfl (by decide +kernel)
  · rw [if_neg c1] at h
    refine aw_seq [(.iconst 1, 1, (axI 1))] (pc' := 10) (L' := [some (aR 12 0 0), some (aI r18), none, none, none]) (stk' := [aI 1]) (σ' := σ17) (g := []) (by decide +kernel) rfl rfl ?_
    cases h
    exact aw_iret rfl (by decide +kernel)
def f_X12_readText_43   : Nat → Sg → Option (Int32 × Sg)
  | 0, _ => none
  | fu + 1, σ =>
    if (σ.1 0 9) = 0 then (
      some (0, σ)
    ) else (
      bnd (f_X12_clause σ) fun r3 σ2 =>
      if r3 = 0 then (
        (f_X12_readText_43 fu) σ2
      ) else (
        some (r3, σ2)
      )
    )
set_option maxRecDepth 100000 in
set_option maxHeartbeats 4000000 in
theorem ok_X12_readText_43 {κ : Kd}    : ∀ (fu : Nat)  (σ : Sg) (q : (Int32 × Sg)), f_X12_readText_43 fu  σ = some q → AW κ pX12_readText 11 (some (aI q.1), q.2) 43 [some (aR 12 0 0), none] [] σ := by
  intro fu
  induction fu with
  | zero =>
    intro  σ q h
    unfold f_X12_readText_43 at h
    cases h
  | succ fu ih =>
    intro  σ q h
    unfold f_X12_readText_43 at h
    refine aw_seq [(.aload_n 0, 1, ax0), (.getfield 108, 3, (axF 12 9 (0, 0, 0, none)))] (pc' := 47) (L' := [some (aR 12 0 0), none]) (stk' := [aI (σ.1 0 9)]) (σ' := σ) (g := []) (by decide +kernel) rfl rfl ?_
    refine aw_if_eq (off := 17) (tgt := 64) (by decide +kernel) (by decide) (fun c1 => ?_) (fun c1 => ?_)
    · rw [if_pos c1] at h
      refine aw_seq [(.iconst 0, 1, (axI 0))] (pc' := 65) (L' := [some (aR 12 0 0), none]) (stk' := [aI 0]) (σ' := σ) (g := []) (by decide +kernel) rfl rfl ?_
      cases h
      exact aw_iret rfl (by decide +kernel)
    · rw [if_neg c1] at h
      refine aw_seq [(.aload_n 0, 1, ax0)] (pc' := 51) (L' := [some (aR 12 0 0), none]) (stk' := [aR 12 0 0]) (σ' := σ) (g := []) (by decide +kernel) rfl rfl ?_
      obtain ⟨r3, σ2, h1, h⟩ := bnd_some h
      refine aw_cV (P' := pX12_clause) (idx := 257) (d' := 10) (c := 12) (n := 0) (k := 0) [] [] (ov := (some (aI r3))) (stk2 := [aI r3]) okp_X12_clause (by decide +kernel) ml_RX12_257 vok_X12_clause (by decide) rfl nar_X12_clause (by decide) rfl (Nat.le_of_ble_eq_true rfl) (ok_X12_clause h1) rfl ?_
      refine aw_seq [(.istore_n 1, 1, ax0), (.iload_n 1, 1, ax0)] (pc' := 56) (L' := [some (aR 12 0 0), some (aI r3)]) (stk' := [aI r3]) (σ' := σ2) (g := []) (by decide +kernel) rfl rfl ?_
      refine aw_if_eq (off := 5) (tgt := 61) (by decide +kernel) (by decide) (fun c1 => ?_) (fun c1 => ?_)
      · rw [if_pos c1] at h
        refine aw_goto (off := (-18)) (tgt := 43) (by decide +kernel) (by decide) ?_
        refine aw_forget (L' := [some (aR 12 0 0), none]) (lsub_s (lsub_n (lsub_0))) ?_
        exact ih σ2 _ h
      · rw [if_neg c1] at h
        refine aw_seq [(.iload_n 1, 1, ax0)] (pc' := 60) (L' := [some (aR 12 0 0), some (aI r3)]) (stk' := [aI r3]) (σ' := σ2) (g := []) (by decide +kernel) rfl rfl ?_
        cases h
        exact aw_iret rfl (by decide +kernel)
def f_X12_readText  (σ : Sg) : Option (Int32 × Sg) :=
  grd (inb 1 1986 && true) <|
  ltσ (wI σ 0 12 (705 * (σ.1 1 (ix 1)))) fun σ4 =>
  grd (inb (σ4.1 0 12) 2820 && true) <|
  ltσ (wI σ4 3 (ix (σ4.1 0 12)) 0) fun σ6 =>
  ltσ (wI σ6 0 13 0) fun σ8 =>
  ltσ (wI σ8 0 19 0) fun σ10 =>
  ltσ (wI σ10 0 7 0) fun σ12 =>
  bndV (f_X12_nextToken σ12) fun σ15 =>
  f_X12_readText_43 FU σ15
set_option maxRecDepth 100000 in
set_option maxHeartbeats 4000000 in
theorem ok_X12_readText {κ : Kd}  {σ : Sg} {q : (Int32 × Sg)} (h : f_X12_readText σ = some q) : AMet κ pX12_readText 11 [aR 12 0 0] σ (some (aI q.1), q.2) := by
  unfold f_X12_readText at h
  refine amet_of okp_X12_readText [(false, aR 12 0 0)] (List.forall_mem_cons.mpr ⟨rfl, (fun _ hn => absurd hn List.not_mem_nil)⟩) 1 rfl ?_
  show AW κ pX12_readText 11 (some (aI q.1), q.2) 0 [some (aR 12 0 0), none] [] σ
  obtain ⟨hg, h⟩ := grd_some h
  obtain ⟨σ4, e5, h⟩ := ltσ_some h
  refine aw_seq [(.aload_n 0, 1, ax0), (.sipush 705, 3, (axI 705)), (.aload_n 0, 1, ax0), (.getfield 7, 3, (axF 12 0 (2, 1, 13, some 1986))), (.iconst 1, 1, (axI 1)), (.iaload, 1, ax0), (.imul, 1, ax0), (.putfield 146, 3, (axF 12 12 (0, 0, 0, none)))] (pc' := 14) (L' := [some (aR 12 0 0), none]) (stk' := []) (σ' := σ4) (g := [inb 1 1986]) (by decide +kernel) (by rw [e5]; rfl) hg ?_
  obtain ⟨hg, h⟩ := grd_some h
  obtain ⟨σ6, e7, h⟩ := ltσ_some h
  refine aw_seq [(.aload_n 0, 1, ax0), (.getfield 16, 3, (axF 12 2 (2, 3, 13, some 2820))), (.aload_n 0, 1, ax0), (.getfield 146, 3, (axF 12 12 (0, 0, 0, none))), (.iconst 0, 1, (axI 0)), (.iastore, 1, ax0)] (pc' := 24) (L' := [some (aR 12 0 0), none]) (stk' := []) (σ' := σ6) (g := [inb (σ4.1 0 12) 2820]) (by decide +kernel) (by rw [e7]; rfl) hg ?_
  obtain ⟨σ8, e9, h⟩ := ltσ_some h
  refine aw_seq [(.aload_n 0, 1, ax0), (.iconst 0, 1, (axI 0)), (.putfield 149, 3, (axF 12 13 (0, 0, 0, none)))] (pc' := 29) (L' := [some (aR 12 0 0), none]) (stk' := []) (σ' := σ8) (g := []) (by decide +kernel) (by rw [e9]; rfl) rfl ?_
  obtain ⟨σ10, e11, h⟩ := ltσ_some h
  refine aw_seq [(.aload_n 0, 1, ax0), (.iconst 0, 1, (axI 0)), (.putfield 247, 3, (axF 12 19 (0, 0, 0, none)))] (pc' := 34) (L' := [some (aR 12 0 0), none]) (stk' := []) (σ' := σ10) (g := []) (by decide +kernel) (by rw [e11]; rfl) rfl ?_
  obtain ⟨σ12, e13, h⟩ := ltσ_some h
  refine aw_seq [(.aload_n 0, 1, ax0), (.iconst 0, 1, (axI 0)), (.putfield 98, 3, (axF 12 7 (0, 0, 0, none)))] (pc' := 39) (L' := [some (aR 12 0 0), none]) (stk' := []) (σ' := σ12) (g := []) (by decide +kernel) (by rw [e13]; rfl) rfl ?_
  refine aw_seq [(.aload_n 0, 1, ax0)] (pc' := 40) (L' := [some (aR 12 0 0), none]) (stk' := [aR 12 0 0]) (σ' := σ12) (g := []) (by decide +kernel) rfl rfl ?_
  obtain ⟨σ15, h14, h⟩ := bndV_some h
  refine aw_cV (P' := pX12_nextToken) (idx := 175) (d' := 2) (c := 12) (n := 0) (k := 0) [] [] (ov := none) (stk2 := []) okp_X12_nextToken (by decide +kernel) ml_RX12_175 vok_X12_nextToken (by decide) rfl nar_X12_nextToken (by decide) rfl (Nat.le_of_ble_eq_true rfl) (ok_X12_nextToken h14) rfl ?_
  refine aw_forget (L' := [some (aR 12 0 0), none]) (lsub_s (lsub_n (lsub_0))) ?_
  exact ok_X12_readText_43 FU σ15 _ h
def f_X12_text_36   (s1 : Int32) (σ : Sg) : Option (Int32 × Sg) :=
  ltσ (wI σ 0 6 s1) fun σ1 =>
  ltσ (wI σ1 0 4 0) fun σ3 =>
  if (σ3.1 0 5) = 0 then (
    grd (inb 1 1986 && (inb 1 1986 && true)) <|
    ltσ (wI σ3 1 (ix 1) ((σ3.1 1 (ix 1)) + 1)) fun σ5 =>
    grd (inb 1 1986 && true) <|
    some (((σ5.1 1 (ix 1)) - 1), σ5)
  ) else (
    some ((-1), σ3)
  )
set_option maxRecDepth 100000 in
set_option maxHeartbeats 4000000 in
theorem ok_X12_text_36 {κ : Kd}    : ∀ (s1 : Int32) (σ : Sg) (q : (Int32 × Sg)), f_X12_text_36 s1 σ = some q → AW κ pX12_text 12 (some (aI q.1), q.2) 36 [some (aR 12 0 0)] [aI s1, aR 12 0 0] σ := by
  intro s1 σ q h
  unfold f_X12_text_36 at h
  obtain ⟨σ1, e2, h⟩ := ltσ_some h
  refine aw_seq [(.putfield 26, 3, (axF 12 6 (0, 0, 0, none)))] (pc' := 39) (L' := [some (aR 12 0 0)]) (stk' := []) (σ' := σ1) (g := []) (by decide +kernel) (by rw [e2]; rfl) rfl ?_
  obtain ⟨σ3, e4, h⟩ := ltσ_some h
  refine aw_seq [(.aload_n 0, 1, ax0), (.iconst 0, 1, (axI 0)), (.putfield 92, 3, (axF 12 4 (0, 0, 0, none)))] (pc' := 44) (L' := [some (aR 12 0 0)]) (stk' := []) (σ' := σ3) (g := []) (by decide +kernel) (by rw [e4]; rfl) rfl ?_
  refine aw_seq [(.aload_n 0, 1, ax0), (.getfield 22, 3, (axF 12 5 (0, 0, 0, none)))] (pc' := 48) (L' := [some (aR 12 0 0)]) (stk' := [aI (σ3.1 0 5)]) (σ' := σ3) (g := []) (by decide +kernel) rfl rfl ?_
  refine aw_if_eq (off := 5) (tgt := 53) (by decide +kernel) (by decide) (fun c1 => ?_) (fun c1 => ?_)
  · rw [if_pos c1] at h
    obtain ⟨hg, h⟩ := grd_some h
    obtain ⟨σ5, e6, h⟩ := ltσ_some h
    refine aw_seq [(.aload_n 0, 1, ax0), (.getfield 7, 3, (axF 12 0 (2, 1, 13, some 1986))), (.iconst 1, 1, (axI 1)), (.dup2, 1, ax0), (.iaload, 1, ax0), (.iconst 1, 1, (axI 1)), (.iadd, 1, ax0), (.iastore, 1, ax0)] (pc' := 63) (L' := [some (aR 12 0 0)]) (stk' := []) (σ' := σ5) (g := [inb 1 1986, inb 1 1986]) (by decide +kernel) (by rw [e6]; rfl) hg ?_
    obtain ⟨hg, h⟩ := grd_some h
    refine aw_seq [(.aload_n 0, 1, ax0), (.getfield 7, 3, (axF 12 0 (2, 1, 13, some 1986))), (.iconst 1, 1, (axI 1)), (.iaload, 1, ax0), (.iconst 1, 1, (axI 1)), (.isub, 1, ax0)] (pc' := 71) (L' := [some (aR 12 0 0)]) (stk' := [aI ((σ5.1 1 (ix 1)) - 1)]) (σ' := σ5) (g := [inb 1 1986]) (by decide +kernel) rfl hg ?_
    cases h
    exact aw_iret rfl (by decide +kernel)
  · rw [if_neg c1] at h
    refine aw_seq [(.iconst (-1), 1, (axI (-1)))] (pc' := 52) (L' := [some (aR 12 0 0)]) (stk' := [aI (-1)]) (σ' := σ3) (g := []) (by decide +kernel) rfl rfl ?_
    cases h
    exact aw_iret rfl (by decide +kernel)
def f_X12_text  (σ : Sg) : Option (Int32 × Sg) :=
  grd (inb 1 1986 && true) <|
  if (σ.1 1 (ix 1)) = 4 then (
    some ((-1), σ)
  ) else (
    bnd (f_X12_readText σ) fun r9 σ8 =>
    ltσ (wI σ8 0 5 r9) fun σ10 =>
    if (σ10.1 0 5) = 0 then (
      f_X12_text_36 (-1) σ10
    ) else (
      f_X12_text_36 (σ10.1 0 8) σ10
    )
  )
set_option maxRecDepth 100000 in
set_option maxHeartbeats 4000000 in
theorem ok_X12_text {κ : Kd}  {σ : Sg} {q : (Int32 × Sg)} (h : f_X12_text σ = some q) : AMet κ pX12_text 12 [aR 12 0 0] σ (some (aI q.1), q.2) := by
  unfold f_X12_text at h
  refine amet_of okp_X12_text [(false, aR 12 0 0)] (List.forall_mem_cons.mpr ⟨rfl, (fun _ hn => absurd hn List.not_mem_nil)⟩) 0 rfl ?_
  show AW κ pX12_text 12 (some (aI q.1), q.2) 0 [some (aR 12 0 0)] [] σ
  obtain ⟨hg, h⟩ := grd_some h
  refine aw_seq [(.aload_n 0, 1, ax0), (.getfield 7, 3, (axF 12 0 (2, 1, 13, some 1986))), (.iconst 1, 1, (axI 1)), (.iaload, 1, ax0), (.iconst 4, 1, (axI 4))] (pc' := 7) (L' := [some (aR 12 0 0)]) (stk' := [aI 4, aI (σ.1 1 (ix 1))]) (σ' := σ) (g := [inb 1 1986]) (by decide +kernel) rfl hg ?_
  refine aw_icmp_ne (off := 5) (tgt := 12) (by decide +kernel) (by decide) (fun c1 => ?_) (fun c1 => ?_)
  · rw [if_neg c1] at h
    refine aw_seq [(.aload_n 0, 1, ax0), (.aload_n 0, 1, ax0)] (pc' := 14) (L' := [some (aR 12 0 0)]) (stk' := [aR 12 0 0, aR 12 0 0]) (σ' := σ) (g := []) (by decide +kernel) rfl rfl ?_
    obtain ⟨r9, σ8, h7, h⟩ := bnd_some h
    refine aw_cV (P' := pX12_readText) (idx := 260) (d' := 11) (c := 12) (n := 0) (k := 0) [] [aR 12 0 0] (ov := (some (aI r9))) (stk2 := [aI r9, aR 12 0 0]) okp_X12_readText (by decide +kernel) ml_RX12_260 vok_X12_readText (by decide) rfl nar_X12_readText (by decide) rfl (Nat.le_of_ble_eq_true rfl) (ok_X12_readText h7) rfl ?_
    obtain ⟨σ10, e11, h⟩ := ltσ_some h
    refine aw_seq [(.putfield 22, 3, (axF 12 5 (0, 0, 0, none)))] (pc' := 20) (L' := [some (aR 12 0 0)]) (stk' := []) (σ' := σ10) (g := []) (by decide +kernel) (by rw [e11]; rfl) rfl ?_
    refine aw_seq [(.aload_n 0, 1, ax0), (.aload_n 0, 1, ax0), (.getfield 22, 3, (axF 12 5 (0, 0, 0, none)))] (pc' := 25) (L' := [some (aR 12 0 0)]) (stk' := [aI (σ10.1 0 5), aR 12 0 0]) (σ' := σ10) (g := []) (by decide +kernel) rfl rfl ?_
    refine aw_if_ne (off := 7) (tgt := 32) (by decide +kernel) (by decide) (fun c1 => ?_) (fun c1 => ?_)
    · rw [if_neg c1] at h
      refine aw_seq [(.aload_n 0, 1, ax0), (.getfield 105, 3, (axF 12 8 (0, 0, 0, none)))] (pc' := 36) (L' := [some (aR 12 0 0)]) (stk' := [aI (σ10.1 0 8), aR 12 0 0]) (σ' := σ10) (g := []) (by decide +kernel) rfl rfl ?_
      refine aw_forget (L' := [some (aR 12 0 0)]) (lsub_s (lsub_0)) ?_
      exact ok_X12_text_36 (σ10.1 0 8) σ10 _ h
    · rw [if_pos c1] at h
      refine aw_seq [(.iconst (-1), 1, (axI (-1)))] (pc' := 29) (L' := [some (aR 12 0 0)]) (stk' := [aI (-1), aR 12 0 0]) (σ' := σ10) (g := []) (by decide +kernel) rfl rfl ?_
      refine aw_goto (off := 7) (tgt := 36) (by decide +kernel) (by decide) ?_
      refine aw_forget (L' := [some (aR 12 0 0)]) (lsub_s (lsub_0)) ?_
      exact ok_X12_text_36 (-1) σ10 _ h
  · rw [if_pos c1] at h
    refine aw_seq [(.iconst (-1), 1, (axI (-1)))] (pc' := 11) (L' := [some (aR 12 0 0)]) (stk' := [aI (-1)]) (σ' := σ) (g := []) (by decide +kernel) rfl rfl ?_
    cases h
    exact aw_iret rfl (by decide +kernel)
def f_X12_fault_24   (s0 : Int32) (σ : Sg) : Option (Int32 × Sg) :=
  some (s0, σ)
set_option maxRecDepth 100000 in
set_option maxHeartbeats 4000000 in
theorem ok_X12_fault_24 {κ : Kd}    : ∀ (s0 : Int32) (σ : Sg) (q : (Int32 × Sg)), f_X12_fault_24 s0 σ = some q → AW κ pX12_fault 1 (some (aI q.1), q.2) 24 [none, none] [aI s0] σ := by
  intro s0 σ q h
  unfold f_X12_fault_24 at h
  cases h
  exact aw_iret rfl (by decide +kernel)
def f_X12_fault (v1 : Int32) (σ : Sg) : Option (Int32 × Sg) :=
  if v1 = 0 then (
    f_X12_fault_24 (σ.1 0 5) σ
  ) else (
    if v1 = 1 then (
      f_X12_fault_24 (σ.1 0 6) σ
    ) else (
      f_X12_fault_24 (-1) σ
    )
  )
set_option maxRecDepth 100000 in
set_option maxHeartbeats 4000000 in
theorem ok_X12_fault {κ : Kd} {v1 : Int32} {σ : Sg} {q : (Int32 × Sg)} (h : f_X12_fault v1 σ = some q) : AMet κ pX12_fault 1 [aR 12 0 0, aI v1] σ (some (aI q.1), q.2) := by
  unfold f_X12_fault at h
  refine amet_of okp_X12_fault [(false, aR 12 0 0), (false, aI v1)] (List.forall_mem_cons.mpr ⟨rfl, List.forall_mem_cons.mpr ⟨rfl, (fun _ hn => absurd hn List.not_mem_nil)⟩⟩) 0 rfl ?_
  show AW κ pX12_fault 1 (some (aI q.1), q.2) 0 [some (aR 12 0 0), some (aI v1)] [] σ
  refine aw_seq [(.iload_n 1, 1, ax0)] (pc' := 1) (L' := [some (aR 12 0 0), some (aI v1)]) (stk' := [aI v1]) (σ' := σ) (g := []) (by decide +kernel) rfl rfl ?_
  refine aw_if_ne (off := 10) (tgt := 11) (by decide +kernel) (by decide) (fun c1 => ?_) (fun c1 => ?_)
  · rw [if_neg c1] at h
    refine aw_seq [(.iload_n 1, 1, ax0), (.iconst 1, 1, (axI 1))] (pc' := 13) (L' := [some (aR 12 0 0), some (aI v1)]) (stk' := [aI 1, aI v1]) (σ' := σ) (g := []) (by decide +kernel) rfl rfl ?_
    refine aw_icmp_ne (off := 10) (tgt := 23) (by decide +kernel) (by decide) (fun c1 => ?_) (fun c1 => ?_)
    · rw [if_neg c1] at h
      refine aw_seq [(.iconst (-1), 1, (axI (-1)))] (pc' := 24) (L' := [some (aR 12 0 0), some (aI v1)]) (stk' := [aI (-1)]) (σ' := σ) (g := []) (by decide +kernel) rfl rfl ?_
      refine aw_forget (L' := [none, none]) (lsub_n (lsub_n (lsub_0))) ?_
      exact ok_X12_fault_24 (-1) σ _ h
    · rw [if_pos c1] at h
      refine aw_seq [(.aload_n 0, 1, ax0), (.getfield 26, 3, (axF 12 6 (0, 0, 0, none)))] (pc' := 20) (L' := [some (aR 12 0 0), some (aI v1)]) (stk' := [aI (σ.1 0 6)]) (σ' := σ) (g := []) (by decide +kernel) rfl rfl ?_
      refine aw_goto (off := 4) (tgt := 24) (by decide +kernel) (by decide) ?_
      refine aw_forget (L' := [none, none]) (lsub_n (lsub_n (lsub_0))) ?_
      exact ok_X12_fault_24 (σ.1 0 6) σ _ h
  · rw [if_pos c1] at h
    refine aw_seq [(.aload_n 0, 1, ax0), (.getfield 22, 3, (axF 12 5 (0, 0, 0, none)))] (pc' := 8) (L' := [some (aR 12 0 0), some (aI v1)]) (stk' := [aI (σ.1 0 5)]) (σ' := σ) (g := []) (by decide +kernel) rfl rfl ?_
    refine aw_goto (off := 16) (tgt := 24) (by decide +kernel) (by decide) ?_
    refine aw_forget (L' := [none, none]) (lsub_n (lsub_n (lsub_0))) ?_
    exact ok_X12_fault_24 (σ.1 0 5) σ _ h
def f_X12_by (v1 : Int32) (σ : Sg) : Option (Int32 × Sg) :=
  grd (inb 1 1986 && true) <|
  bnd (f_X12_isIn v1 (-1) ((σ.1 1 (ix 1)) - 1) σ) fun r3 σ2 =>
  if r3 = 0 then (
    some (0, σ2)
  ) else (
    grd (inb 2 1986 && true) <|
    ltσ (wI σ2 1 (ix 2) v1) fun σ4 =>
    some (1, σ4)
  )
set_option maxRecDepth 100000 in
set_option maxHeartbeats 4000000 in
theorem ok_X12_by {κ : Kd} {v1 : Int32} {σ : Sg} {q : (Int32 × Sg)} (h : f_X12_by v1 σ = some q) : AMet κ pX12_by 2 [aR 12 0 0, aI v1] σ (some (aI q.1), q.2) := by
  unfold f_X12_by at h
  refine amet_of okp_X12_by [(false, aR 12 0 0), (false, aI v1)] (List.forall_mem_cons.mpr ⟨rfl, List.forall_mem_cons.mpr ⟨rfl, (fun _ hn => absurd hn List.not_mem_nil)⟩⟩) 0 rfl ?_
  show AW κ pX12_by 2 (some (aI q.1), q.2) 0 [some (aR 12 0 0), some (aI v1)] [] σ
  obtain ⟨hg, h⟩ := grd_some h
  refine aw_seq [(.iload_n 1, 1, ax0), (.iconst (-1), 1, (axI (-1))), (.aload_n 0, 1, ax0), (.getfield 7, 3, (axF 12 0 (2, 1, 13, some 1986))), (.iconst 1, 1, (axI 1)), (.iaload, 1, ax0), (.iconst 1, 1, (axI 1)), (.isub, 1, ax0)] (pc' := 10) (L' := [some (aR 12 0 0), some (aI v1)]) (stk' := [aI ((σ.1 1 (ix 1)) - 1), aI (-1), aI v1]) (σ' := σ) (g := [inb 1 1986]) (by decide +kernel) rfl hg ?_
  obtain ⟨r3, σ2, h1, h⟩ := bnd_some h
  refine aw_cS (P' := pX12_isIn) (idx := 69) (d' := 1) [aI v1, aI (-1), aI ((σ.1 1 (ix 1)) - 1)] [] (ov := (some (aI r3))) (stk2 := [aI r3]) okp_X12_isIn (by decide +kernel) ml_RX12_69 tok_X12_isIn nar_X12_isIn (by decide) rfl (Nat.le_of_ble_eq_true rfl) (ok_X12_isIn h1) rfl ?_
  refine aw_if_ne (off := 5) (tgt := 18) (by decide +kernel) (by decide) (fun c1 => ?_) (fun c1 => ?_)
  · rw [if_neg c1] at h
    obtain ⟨hg, h⟩ := grd_some h
    obtain ⟨σ4, e5, h⟩ := ltσ_some h
    refine aw_seq [(.aload_n 0, 1, ax0), (.getfield 7, 3, (axF 12 0 (2, 1, 13, some 1986))), (.iconst 2, 1, (axI 2)), (.iload_n 1, 1, ax0), (.iastore, 1, ax0)] (pc' := 25) (L' := [some (aR 12 0 0), some (aI v1)]) (stk' := []) (σ' := σ4) (g := [inb 2 1986]) (by decide +kernel) (by rw [e5]; rfl) hg ?_
    refine aw_seq [(.iconst 1, 1, (axI 1))] (pc' := 26) (L' := [some (aR 12 0 0), some (aI v1)]) (stk' := [aI 1]) (σ' := σ4) (g := []) (by decide +kernel) rfl rfl ?_
    cases h
    exact aw_zret rfl bz_1 (by decide +kernel)
  · rw [if_pos c1] at h
    refine aw_seq [(.iconst 0, 1, (axI 0))] (pc' := 17) (L' := [some (aR 12 0 0), some (aI v1)]) (stk' := [aI 0]) (σ' := σ2) (g := []) (by decide +kernel) rfl rfl ?_
    cases h
    exact aw_zret rfl bz_0 (by decide +kernel)
def f_X12_clip_29   (s0 : Int64) (σ : Sg) : Option (Int64 × Sg) :=
  some (s0, σ)
set_option maxRecDepth 100000 in
set_option maxHeartbeats 4000000 in
theorem ok_X12_clip_29 {κ : Kd}    : ∀ (s0 : Int64) (σ : Sg) (q : (Int64 × Sg)), f_X12_clip_29 s0 σ = some q → AW κ pX12_clip 1 (some (aL q.1), q.2) 29 [none, none] [aL s0] σ := by
  intro s0 σ q h
  unfold f_X12_clip_29 at h
  cases h
  exact aw_lret rfl (by decide +kernel)
def f_X12_clip (v0 : Int64) (σ : Sg) : Option (Int64 × Sg) :=
  if (lg_cmp v0 1000000) ≤ 0 then (
    if 0 ≤ (lg_cmp v0 (-1000000)) then (
      f_X12_clip_29 v0 σ
    ) else (
      f_X12_clip_29 (-1000000) σ
    )
  ) else (
    f_X12_clip_29 1000000 σ
  )
set_option maxRecDepth 100000 in
set_option maxHeartbeats 4000000 in
theorem ok_X12_clip {κ : Kd} {v0 : Int64} {σ : Sg} {q : (Int64 × Sg)} (h : f_X12_clip v0 σ = some q) : AMet κ pX12_clip 1 [aL v0] σ (some (aL q.1), q.2) := by
  unfold f_X12_clip at h
  refine amet_of okp_X12_clip [(true, aL v0)] (List.forall_mem_cons.mpr ⟨rfl, (fun _ hn => absurd hn List.not_mem_nil)⟩) 0 rfl ?_
  show AW κ pX12_clip 1 (some (aL q.1), q.2) 0 [some (aL v0), none] [] σ
  refine aw_seq [(.lload_n 0, 1, ax0), (.ldc2_w 263, 3, (axL 1000000)), (.lcmp, 1, ax0)] (pc' := 5) (L' := [some (aL v0), none]) (stk' := [aI (lg_cmp v0 1000000)]) (σ' := σ) (g := []) (by decide +kernel) rfl rfl ?_
  refine aw_if_le (off := 9) (tgt := 14) (by decide +kernel) (by decide) (fun c1 => ?_) (fun c1 => ?_)
  · rw [if_pos c1] at h
    refine aw_seq [(.lload_n 0, 1, ax0), (.ldc2_w 265, 3, (axL (-1000000))), (.lcmp, 1, ax0)] (pc' := 19) (L' := [some (aL v0), none]) (stk' := [aI (lg_cmp v0 (-1000000))]) (σ' := σ) (g := []) (by decide +kernel) rfl rfl ?_
    refine aw_if_ge (off := 9) (tgt := 28) (by decide +kernel) (by decide) (fun c1 => ?_) (fun c1 => ?_)
    · rw [if_pos c1] at h
      refine aw_seq [(.lload_n 0, 1, ax0)] (pc' := 29) (L' := [some (aL v0), none]) (stk' := [aL v0]) (σ' := σ) (g := []) (by decide +kernel) rfl rfl ?_
      refine aw_forget (L' := [none, none]) (lsub_n (lsub_n (lsub_0))) ?_
      exact ok_X12_clip_29 v0 σ _ h
    · rw [if_neg c1] at h
      refine aw_seq [(.ldc2_w 265, 3, (axL (-1000000)))] (pc' := 25) (L' := [some (aL v0), none]) (stk' := [aL (-1000000)]) (σ' := σ) (g := []) (by decide +kernel) rfl rfl ?_
      refine aw_goto (off := 4) (tgt := 29) (by decide +kernel) (by decide) ?_
      refine aw_forget (L' := [none, none]) (lsub_n (lsub_n (lsub_0))) ?_
      exact ok_X12_clip_29 (-1000000) σ _ h
  · rw [if_neg c1] at h
    refine aw_seq [(.ldc2_w 263, 3, (axL 1000000))] (pc' := 11) (L' := [some (aL v0), none]) (stk' := [aL 1000000]) (σ' := σ) (g := []) (by decide +kernel) rfl rfl ?_
    refine aw_goto (off := 18) (tgt := 29) (by decide +kernel) (by decide) ?_
    refine aw_forget (L' := [none, none]) (lsub_n (lsub_n (lsub_0))) ?_
    exact ok_X12_clip_29 1000000 σ _ h
def f_X12_two_65   (s0 : Int64) (σ : Sg) : Option (Int64 × Sg) :=
  some (s0, σ)
set_option maxRecDepth 100000 in
set_option maxHeartbeats 4000000 in
theorem ok_X12_two_65 {κ : Kd}    : ∀ (s0 : Int64) (σ : Sg) (q : (Int64 × Sg)), f_X12_two_65 s0 σ = some q → AW κ pX12_two 2 (some (aL q.1), q.2) 65 [none, none, none, none, none] [aL s0] σ := by
  intro s0 σ q h
  unfold f_X12_two_65 at h
  cases h
  exact aw_lret rfl (by decide +kernel)
def f_X12_two (v0 : Int32) (v1 : Int64) (v3 : Int64) (σ : Sg) : Option (Int64 × Sg) :=
  if v0 = 5 then (
    bnd (f_X12_clip (v1 + v3) σ) fun r3 σ2 =>
    some (r3, σ2)
  ) else (
  if v0 = 6 then (
    bnd (f_X12_clip (v1 - v3) σ) fun r6 σ5 =>
    some (r6, σ5)
  ) else (
  if v0 = 7 then (
    bnd (f_X12_clip (v1 * v3) σ) fun r9 σ8 =>
    some (r9, σ8)
  ) else (
    if (lg_cmp v3 0) = 0 then (
      f_X12_two_65 0 σ
    ) else (
      grd ((!decide (v3 = 0)) && true) <|
      bnd (f_X12_clip (v1 / v3) σ) fun r12 σ11 =>
      f_X12_two_65 r12 σ11
    )
  )))
set_option maxRecDepth 100000 in
set_option maxHeartbeats 4000000 in
theorem ok_X12_two {κ : Kd} {v0 : Int32} {v1 : Int64} {v3 : Int64} {σ : Sg} {q : (Int64 × Sg)} (h : f_X12_two v0 v1 v3 σ = some q) : AMet κ pX12_two 2 [aI v0, aL v1, aL v3] σ (some (aL q.1), q.2) := by
  unfold f_X12_two at h
  refine amet_of okp_X12_two [(false, aI v0), (true, aL v1), (true, aL v3)] (List.forall_mem_cons.mpr ⟨rfl, List.forall_mem_cons.mpr ⟨rfl, List.forall_mem_cons.mpr ⟨rfl, (fun _ hn => absurd hn List.not_mem_nil)⟩⟩⟩) 0 rfl ?_
  show AW κ pX12_two 2 (some (aL q.1), q.2) 0 [some (aI v0), some (aL v1), none, some (aL v3), none] [] σ
  refine aw_seq [(.iload_n 0, 1, ax0)] (pc' := 1) (L' := [some (aI v0), some (aL v1), none, some (aL v3), none]) (stk' := [aI v0]) (σ' := σ) (g := []) (by decide +kernel) rfl rfl ?_
  refine aw_table (dflt := 48) (lo := 5) (hi := 7) (offs := #[27, 34, 41]) (len := 27) (dt := 49) (by decide +kernel) [(5, 28), (6, 35), (7, 42)] (by decide +kernel) ?_
  refine awsw_cons (fun c1 => ?_) (fun c1 => ?_)
  · rw [if_pos c1] at h
    refine aw_seq [(.lload_n 1, 1, ax0), (.lload_n 3, 1, ax0), (.ladd, 1, ax0)] (pc' := 31) (L' := [some (aI v0), some (aL v1), none, some (aL v3), none]) (stk' := [aL (v1 + v3)]) (σ' := σ) (g := []) (by decide +kernel) rfl rfl ?_
    obtain ⟨r3, σ2, h1, h⟩ := bnd_some h
    refine aw_cS (P' := pX12_clip) (idx := 267) (d' := 1) [aL (v1 + v3)] [] (ov := (some (aL r3))) (stk2 := [aL r3]) okp_X12_clip (by decide +kernel) ml_RX12_267 tok_X12_clip nar_X12_clip (by decide) rfl (Nat.le_of_ble_eq_true rfl) (ok_X12_clip h1) rfl ?_
    cases h
    exact aw_lret rfl (by decide +kernel)
  rw [if_neg c1] at h
  refine awsw_cons (fun c1 => ?_) (fun c1 => ?_)
  · rw [if_pos c1] at h
    refine aw_seq [(.lload_n 1, 1, ax0), (.lload_n 3, 1, ax0), (.lsub, 1, ax0)] (pc' := 38) (L' := [some (aI v0), some (aL v1), none, some (aL v3), none]) (stk' := [aL (v1 - v3)]) (σ' := σ) (g := []) (by decide +kernel) rfl rfl ?_
    obtain ⟨r6, σ5, h4, h⟩ := bnd_some h
    refine aw_cS (P' := pX12_clip) (idx := 267) (d' := 1) [aL (v1 - v3)] [] (ov := (some (aL r6))) (stk2 := [aL r6]) okp_X12_clip (by decide +kernel) ml_RX12_267 tok_X12_clip nar_X12_clip (by decide) rfl (Nat.le_of_ble_eq_true rfl) (ok_X12_clip h4) rfl ?_
    cases h
    exact aw_lret rfl (by decide +kernel)
  rw [if_neg c1] at h
  refine awsw_cons (fun c1 => ?_) (fun c1 => ?_)
  · rw [if_pos c1] at h
    refine aw_seq [(.lload_n 1, 1, ax0), (.lload_n 3, 1, ax0), (.lmul, 1, ax0)] (pc' := 45) (L' := [some (aI v0), some (aL v1), none, some (aL v3), none]) (stk' := [aL (v1 * v3)]) (σ' := σ) (g := []) (by decide +kernel) rfl rfl ?_
    obtain ⟨r9, σ8, h7, h⟩ := bnd_some h
    refine aw_cS (P' := pX12_clip) (idx := 267) (d' := 1) [aL (v1 * v3)] [] (ov := (some (aL r9))) (stk2 := [aL r9]) okp_X12_clip (by decide +kernel) ml_RX12_267 tok_X12_clip nar_X12_clip (by decide) rfl (Nat.le_of_ble_eq_true rfl) (ok_X12_clip h7) rfl ?_
    cases h
    exact aw_lret rfl (by decide +kernel)
  rw [if_neg c1] at h
  refine awsw_nil ?_
  refine aw_seq [(.lload_n 3, 1, ax0), (.lconst 0, 1, (axL 0)), (.lcmp, 1, ax0)] (pc' := 52) (L' := [some (aI v0), some (aL v1), none, some (aL v3), none]) (stk' := [aI (lg_cmp v3 0)]) (σ' := σ) (g := []) (by decide +kernel) rfl rfl ?_
  refine aw_if_ne (off := 7) (tgt := 59) (by decide +kernel) (by decide) (fun c1 => ?_) (fun c1 => ?_)
  · rw [if_neg c1] at h
    obtain ⟨hg, h⟩ := grd_some h
    refine aw_seq [(.lload_n 1, 1, ax0), (.lload_n 3, 1, ax0), (.ldiv, 1, ax0)] (pc' := 62) (L' := [some (aI v0), some (aL v1), none, some (aL v3), none]) (stk' := [aL (v1 / v3)]) (σ' := σ) (g := [(!decide (v3 = 0))]) (by decide +kernel) rfl hg ?_
    obtain ⟨r12, σ11, h10, h⟩ := bnd_some h
    refine aw_cS (P' := pX12_clip) (idx := 267) (d' := 1) [aL (v1 / v3)] [] (ov := (some (aL r12))) (stk2 := [aL r12]) okp_X12_clip (by decide +kernel) ml_RX12_267 tok_X12_clip nar_X12_clip (by decide) rfl (Nat.le_of_ble_eq_true rfl) (ok_X12_clip h10) rfl ?_
    refine aw_forget (L' := [none, none, none, none, none]) (lsub_n (lsub_n (lsub_n (lsub_n (lsub_n (lsub_0)))))) ?_
    exact ok_X12_two_65 r12 σ11 _ h
  · rw [if_pos c1] at h
    refine aw_seq [(.lconst 0, 1, (axL 0))] (pc' := 56) (L' := [some (aI v0), some (aL v1), none, some (aL v3), none]) (stk' := [aL 0]) (σ' := σ) (g := []) (by decide +kernel) rfl rfl ?_
    refine aw_goto (off := 9) (tgt := 65) (by decide +kernel) (by decide) ?_
    refine aw_forget (L' := [none, none, none, none, none]) (lsub_n (lsub_n (lsub_n (lsub_n (lsub_n (lsub_0)))))) ?_
    exact ok_X12_two_65 0 σ _ h
def f_X12_isAsked_111   (s0 : Int32) (σ : Sg) : Option (Int32 × Sg) :=
  grd (bz s0) <| some (s0, σ)
set_option maxRecDepth 100000 in
set_option maxHeartbeats 4000000 in
theorem ok_X12_isAsked_111 {κ : Kd}    : ∀ (s0 : Int32) (σ : Sg) (q : (Int32 × Sg)), f_X12_isAsked_111 s0 σ = some q → AW κ pX12_isAsked 1 (some (aI q.1), q.2) 111 [none, none, none, none, none] [aI s0] σ := by
  intro s0 σ q h
  unfold f_X12_isAsked_111 at h
  obtain ⟨hg, h⟩ := grd_some h
  cases h
  exact aw_zret rfl hg (by decide +kernel)
def f_X12_isAsked (v0 : Int32) (v1 : Int64) (v3 : Int64) (σ : Sg) : Option (Int32 × Sg) :=
  if v0 = 10 then (
    if 0 ≤ (lg_cmp v1 v3) then (
      f_X12_isAsked_111 0 σ
    ) else (
      f_X12_isAsked_111 1 σ
    )
  ) else (
    if v0 = 11 then (
      if 0 < (lg_cmp v1 v3) then (
        f_X12_isAsked_111 0 σ
      ) else (
        f_X12_isAsked_111 1 σ
      )
    ) else (
      if v0 = 12 then (
        if (lg_cmp v1 v3) ≤ 0 then (
          f_X12_isAsked_111 0 σ
        ) else (
          f_X12_isAsked_111 1 σ
        )
      ) else (
        if v0 = 13 then (
          if (lg_cmp v1 v3) < 0 then (
            f_X12_isAsked_111 0 σ
          ) else (
            f_X12_isAsked_111 1 σ
          )
        ) else (
          if v0 = 14 then (
            if (lg_cmp v1 v3) = 0 then (
              f_X12_isAsked_111 1 σ
            ) else (
              f_X12_isAsked_111 0 σ
            )
          ) else (
            if (lg_cmp v1 v3) = 0 then (
              f_X12_isAsked_111 0 σ
            ) else (
              f_X12_isAsked_111 1 σ
            )
          )
        )
      )
    )
  )
set_option maxRecDepth 100000 in
set_option maxHeartbeats 4000000 in
theorem ok_X12_isAsked {κ : Kd} {v0 : Int32} {v1 : Int64} {v3 : Int64} {σ : Sg} {q : (Int32 × Sg)} (h : f_X12_isAsked v0 v1 v3 σ = some q) : AMet κ pX12_isAsked 1 [aI v0, aL v1, aL v3] σ (some (aI q.1), q.2) := by
  unfold f_X12_isAsked at h
  refine amet_of okp_X12_isAsked [(false, aI v0), (true, aL v1), (true, aL v3)] (List.forall_mem_cons.mpr ⟨rfl, List.forall_mem_cons.mpr ⟨rfl, List.forall_mem_cons.mpr ⟨rfl, (fun _ hn => absurd hn List.not_mem_nil)⟩⟩⟩) 0 rfl ?_
  show AW κ pX12_isAsked 1 (some (aI q.1), q.2) 0 [some (aI v0), some (aL v1), none, some (aL v3), none] [] σ
  refine aw_seq [(.iload_n 0, 1, ax0), (.bipush 10, 2, (axI 10))] (pc' := 3) (L' := [some (aI v0), some (aL v1), none, some (aL v3), none]) (stk' := [aI 10, aI v0]) (σ' := σ) (g := []) (by decide +kernel) rfl rfl ?_
  refine aw_icmp_ne (off := 17) (tgt := 20) (by decide +kernel) (by decide) (fun c1 => ?_) (fun c1 => ?_)
  · rw [if_neg c1] at h
    refine aw_seq [(.iload_n 0, 1, ax0), (.bipush 11, 2, (axI 11))] (pc' := 23) (L' := [some (aI v0), some (aL v1), none, some (aL v3), none]) (stk' := [aI 11, aI v0]) (σ' := σ) (g := []) (by decide +kernel) rfl rfl ?_
    refine aw_icmp_ne (off := 17) (tgt := 40) (by decide +kernel) (by decide) (fun c1 => ?_) (fun c1 => ?_)
    · rw [if_neg c1] at h
      refine aw_seq [(.iload_n 0, 1, ax0), (.bipush 12, 2, (axI 12))] (pc' := 43) (L' := [some (aI v0), some (aL v1), none, some (aL v3), none]) (stk' := [aI 12, aI v0]) (σ' := σ) (g := []) (by decide +kernel) rfl rfl ?_
      refine aw_icmp_ne (off := 17) (tgt := 60) (by decide +kernel) (by decide) (fun c1 => ?_) (fun c1 => ?_)
      · rw [if_neg c1] at h
        refine aw_seq [(.iload_n 0, 1, ax0), (.bipush 13, 2, (axI 13))] (pc' := 63) (L' := [some (aI v0), some (aL v1), none, some (aL v3), none]) (stk' := [aI 13, aI v0]) (σ' := σ) (g := []) (by decide +kernel) rfl rfl ?_
        refine aw_icmp_ne (off := 17) (tgt := 80) (by decide +kernel) (by decide) (fun c1 => ?_) (fun c1 => ?_)
        · rw [if_neg c1] at h
          refine aw_seq [(.iload_n 0, 1, ax0), (.bipush 14, 2, (axI 14))] (pc' := 83) (L' := [some (aI v0), some (aL v1), none, some (aL v3), none]) (stk' := [aI 14, aI v0]) (σ' := σ) (g := []) (by decide +kernel) rfl rfl ?_
          refine aw_icmp_ne (off := 17) (tgt := 100) (by decide +kernel) (by decide) (fun c1 => ?_) (fun c1 => ?_)
          · rw [if_neg c1] at h
            refine aw_seq [(.lload_n 1, 1, ax0), (.lload_n 3, 1, ax0), (.lcmp, 1, ax0)] (pc' := 103) (L' := [some (aI v0), some (aL v1), none, some (aL v3), none]) (stk' := [aI (lg_cmp v1 v3)]) (σ' := σ) (g := []) (by decide +kernel) rfl rfl ?_
            refine aw_if_eq (off := 7) (tgt := 110) (by decide +kernel) (by decide) (fun c1 => ?_) (fun c1 => ?_)
            · rw [if_pos c1] at h
              refine aw_seq [(.iconst 0, 1, (axI 0))] (pc' := 111) (L' := [some (aI v0), some (aL v1), none, some (aL v3), none]) (stk' := [aI 0]) (σ' := σ) (g := []) (by decide +kernel) rfl rfl ?_
              refine aw_forget (L' := [none, none, none, none, none]) (lsub_n (lsub_n (lsub_n (lsub_n (lsub_n (lsub_0)))))) ?_
              exact ok_X12_isAsked_111 0 σ _ h
            · rw [if_neg c1] at h
              refine aw_seq [(.iconst 1, 1, (axI 1))] (pc' := 107) (L' := [some (aI v0), some (aL v1), none, some (aL v3), none]) (stk' := [aI 1]) (σ' := σ) (g := []) (by decide +kernel) rfl rfl ?_
              refine aw_goto (off := 4) (tgt := 111) (by decide +kernel) (by decide) ?_
              refine aw_forget (L' := [none, none, none, none, none]) (lsub_n (lsub_n (lsub_n (lsub_n (lsub_n (lsub_0)))))) ?_
              exact ok_X12_isAsked_111 1 σ _ h
          · rw [if_pos c1] at h
            refine aw_seq [(.lload_n 1, 1, ax0), (.lload_n 3, 1, ax0), (.lcmp, 1, ax0)] (pc' := 89) (L' := [some (aI v0), some (aL v1), none, some (aL v3), none]) (stk' := [aI (lg_cmp v1 v3)]) (σ' := σ) (g := []) (by decide +kernel) rfl rfl ?_
            refine aw_if_ne (off := 7) (tgt := 96) (by decide +kernel) (by decide) (fun c1 => ?_) (fun c1 => ?_)
            · rw [if_neg c1] at h
              refine aw_seq [(.iconst 0, 1, (axI 0))] (pc' := 97) (L' := [some (aI v0), some (aL v1), none, some (aL v3), none]) (stk' := [aI 0]) (σ' := σ) (g := []) (by decide +kernel) rfl rfl ?_
              refine aw_goto (off := 14) (tgt := 111) (by decide +kernel) (by decide) ?_
              refine aw_forget (L' := [none, none, none, none, none]) (lsub_n (lsub_n (lsub_n (lsub_n (lsub_n (lsub_0)))))) ?_
              exact ok_X12_isAsked_111 0 σ _ h
            · rw [if_pos c1] at h
              refine aw_seq [(.iconst 1, 1, (axI 1))] (pc' := 93) (L' := [some (aI v0), some (aL v1), none, some (aL v3), none]) (stk' := [aI 1]) (σ' := σ) (g := []) (by decide +kernel) rfl rfl ?_
              refine aw_goto (off := 18) (tgt := 111) (by decide +kernel) (by decide) ?_
              refine aw_forget (L' := [none, none, none, none, none]) (lsub_n (lsub_n (lsub_n (lsub_n (lsub_n (lsub_0)))))) ?_
              exact ok_X12_isAsked_111 1 σ _ h
        · rw [if_pos c1] at h
          refine aw_seq [(.lload_n 1, 1, ax0), (.lload_n 3, 1, ax0), (.lcmp, 1, ax0)] (pc' := 69) (L' := [some (aI v0), some (aL v1), none, some (aL v3), none]) (stk' := [aI (lg_cmp v1 v3)]) (σ' := σ) (g := []) (by decide +kernel) rfl rfl ?_
          refine aw_if_lt (off := 7) (tgt := 76) (by decide +kernel) (by decide) (fun c1 => ?_) (fun c1 => ?_)
          · rw [if_pos c1] at h
            refine aw_seq [(.iconst 0, 1, (axI 0))] (pc' := 77) (L' := [some (aI v0), some (aL v1), none, some (aL v3), none]) (stk' := [aI 0]) (σ' := σ) (g := []) (by decide +kernel) rfl rfl ?_
            refine aw_goto (off := 34) (tgt := 111) (by decide +kernel) (by decide) ?_
            refine aw_forget (L' := [none, none, none, none, none]) (lsub_n (lsub_n (lsub_n (lsub_n (lsub_n (lsub_0)))))) ?_
            exact ok_X12_isAsked_111 0 σ _ h
          · rw [if_neg c1] at h
            refine aw_seq [(.iconst 1, 1, (axI 1))] (pc' := 73) (L' := [some (aI v0), some (aL v1), none, some (aL v3), none]) (stk' := [aI 1]) (σ' := σ) (g := []) (by decide +kernel) rfl rfl ?_
            refine aw_goto (off := 38) (tgt := 111) (by decide +kernel) (by decide) ?_
            refine aw_forget (L' := [none, none, none, none, none]) (lsub_n (lsub_n (lsub_n (lsub_n (lsub_n (lsub_0)))))) ?_
            exact ok_X12_isAsked_111 1 σ _ h
      · rw [if_pos c1] at h
        refine aw_seq [(.lload_n 1, 1, ax0), (.lload_n 3, 1, ax0), (.lcmp, 1, ax0)] (pc' := 49) (L' := [some (aI v0), some (aL v1), none, some (aL v3), none]) (stk' := [aI (lg_cmp v1 v3)]) (σ' := σ) (g := []) (by decide +kernel) rfl rfl ?_
        refine aw_if_le (off := 7) (tgt := 56) (by decide +kernel) (by decide) (fun c1 => ?_) (fun c1 => ?_)
        · rw [if_pos c1] at h
          refine aw_seq [(.iconst 0, 1, (axI 0))] (pc' := 57) (L' := [some (aI v0), some (aL v1), none, some (aL v3), none]) (stk' := [aI 0]) (σ' := σ) (g := []) (by decide +kernel) rfl rfl ?_
          refine aw_goto (off := 54) (tgt := 111) (by decide +kernel) (by decide) ?_
          refine aw_forget (L' := [none, none, none, none, none]) (lsub_n (lsub_n (lsub_n (lsub_n (lsub_n (lsub_0)))))) ?_
          exact ok_X12_isAsked_111 0 σ _ h
        · rw [if_neg c1] at h
          refine aw_seq [(.iconst 1, 1, (axI 1))] (pc' := 53) (L' := [some (aI v0), some (aL v1), none, some (aL v3), none]) (stk' := [aI 1]) (σ' := σ) (g := []) (by decide +kernel) rfl rfl ?_
          refine aw_goto (off := 58) (tgt := 111) (by decide +kernel) (by decide) ?_
          refine aw_forget (L' := [none, none, none, none, none]) (lsub_n (lsub_n (lsub_n (lsub_n (lsub_n (lsub_0)))))) ?_
          exact ok_X12_isAsked_111 1 σ _ h
    · rw [if_pos c1] at h
      refine aw_seq [(.lload_n 1, 1, ax0), (.lload_n 3, 1, ax0), (.lcmp, 1, ax0)] (pc' := 29) (L' := [some (aI v0), some (aL v1), none, some (aL v3), none]) (stk' := [aI (lg_cmp v1 v3)]) (σ' := σ) (g := []) (by decide +kernel) rfl rfl ?_
      refine aw_if_gt (off := 7) (tgt := 36) (by decide +kernel) (by decide) (fun c1 => ?_) (fun c1 => ?_)
      · rw [if_pos c1] at h
        refine aw_seq [(.iconst 0, 1, (axI 0))] (pc' := 37) (L' := [some (aI v0), some (aL v1), none, some (aL v3), none]) (stk' := [aI 0]) (σ' := σ) (g := []) (by decide +kernel) rfl rfl ?_
        refine aw_goto (off := 74) (tgt := 111) (by decide +kernel) (by decide) ?_
        refine aw_forget (L' := [none, none, none, none, none]) (lsub_n (lsub_n (lsub_n (lsub_n (lsub_n (lsub_0)))))) ?_
        exact ok_X12_isAsked_111 0 σ _ h
      · rw [if_neg c1] at h
        refine aw_seq [(.iconst 1, 1, (axI 1))] (pc' := 33) (L' := [some (aI v0), some (aL v1), none, some (aL v3), none]) (stk' := [aI 1]) (σ' := σ) (g := []) (by decide +kernel) rfl rfl ?_
        refine aw_goto (off := 78) (tgt := 111) (by decide +kernel) (by decide) ?_
        refine aw_forget (L' := [none, none, none, none, none]) (lsub_n (lsub_n (lsub_n (lsub_n (lsub_n (lsub_0)))))) ?_
        exact ok_X12_isAsked_111 1 σ _ h
  · rw [if_pos c1] at h
    refine aw_seq [(.lload_n 1, 1, ax0), (.lload_n 3, 1, ax0), (.lcmp, 1, ax0)] (pc' := 9) (L' := [some (aI v0), some (aL v1), none, some (aL v3), none]) (stk' := [aI (lg_cmp v1 v3)]) (σ' := σ) (g := []) (by decide +kernel) rfl rfl ?_
    refine aw_if_ge (off := 7) (tgt := 16) (by decide +kernel) (by decide) (fun c1 => ?_) (fun c1 => ?_)
    · rw [if_pos c1] at h
      refine aw_seq [(.iconst 0, 1, (axI 0))] (pc' := 17) (L' := [some (aI v0), some (aL v1), none, some (aL v3), none]) (stk' := [aI 0]) (σ' := σ) (g := []) (by decide +kernel) rfl rfl ?_
      refine aw_goto (off := 94) (tgt := 111) (by decide +kernel) (by decide) ?_
      refine aw_forget (L' := [none, none, none, none, none]) (lsub_n (lsub_n (lsub_n (lsub_n (lsub_n (lsub_0)))))) ?_
      exact ok_X12_isAsked_111 0 σ _ h
    · rw [if_neg c1] at h
      refine aw_seq [(.iconst 1, 1, (axI 1))] (pc' := 13) (L' := [some (aI v0), some (aL v1), none, some (aL v3), none]) (stk' := [aI 1]) (σ' := σ) (g := []) (by decide +kernel) rfl rfl ?_
      refine aw_goto (off := 98) (tgt := 111) (by decide +kernel) (by decide) ?_
      refine aw_forget (L' := [none, none, none, none, none]) (lsub_n (lsub_n (lsub_n (lsub_n (lsub_n (lsub_0)))))) ?_
      exact ok_X12_isAsked_111 1 σ _ h
def f_X12_warmOf_30   (s0 : Int64) (σ : Sg) : Option (Int64 × Sg) :=
  some (s0, σ)
set_option maxRecDepth 100000 in
set_option maxHeartbeats 4000000 in
theorem ok_X12_warmOf_30 {κ : Kd}    : ∀ (s0 : Int64) (σ : Sg) (q : (Int64 × Sg)), f_X12_warmOf_30 s0 σ = some q → AW κ pX12_warmOf 2 (some (aL q.1), q.2) 30 [none, none, none] [aL s0] σ := by
  intro s0 σ q h
  unfold f_X12_warmOf_30 at h
  cases h
  exact aw_lret rfl (by decide +kernel)
def f_X12_warmOf_29    (σ : Sg) : Option (Int64 × Sg) :=
  f_X12_warmOf_30 0 σ
set_option maxRecDepth 100000 in
set_option maxHeartbeats 4000000 in
theorem ok_X12_warmOf_29 {κ : Kd}    : ∀  (σ : Sg) (q : (Int64 × Sg)), f_X12_warmOf_29  σ = some q → AW κ pX12_warmOf 2 (some (aL q.1), q.2) 29 [none, none, none] [] σ := by
  intro  σ q h
  unfold f_X12_warmOf_29 at h
  refine aw_seq [(.lconst 0, 1, (axL 0))] (pc' := 30) (L' := [none, none, none]) (stk' := [aL 0]) (σ' := σ) (g := []) (by decide +kernel) rfl rfl ?_
  refine aw_forget (L' := [none, none, none]) (lsub_n (lsub_n (lsub_n (lsub_0)))) ?_
  exact ok_X12_warmOf_30 0 σ _ h
def f_X12_warmOf (v1 : Int64) (σ : Sg) : Option (Int64 × Sg) :=
  if (lg_cmp v1 0) < 0 then (
    f_X12_warmOf_29 σ
  ) else (
    grd (inb 0 1986 && true) <|
    if 0 ≤ (lg_cmp v1 (Int32.toInt64 (σ.1 1 (ix 0)))) then (
      f_X12_warmOf_29 σ
    ) else (
      bnd (f_X12_get (Int64.toInt32 v1) 1 σ) fun r3 σ2 =>
      f_X12_warmOf_30 (Int32.toInt64 r3) σ2
    )
  )
set_option maxRecDepth 100000 in
set_option maxHeartbeats 4000000 in
theorem ok_X12_warmOf {κ : Kd} {v1 : Int64} {σ : Sg} {q : (Int64 × Sg)} (h : f_X12_warmOf v1 σ = some q) : AMet κ pX12_warmOf 2 [aR 12 0 0, aL v1] σ (some (aL q.1), q.2) := by
  unfold f_X12_warmOf at h
  refine amet_of okp_X12_warmOf [(false, aR 12 0 0), (true, aL v1)] (List.forall_mem_cons.mpr ⟨rfl, List.forall_mem_cons.mpr ⟨rfl, (fun _ hn => absurd hn List.not_mem_nil)⟩⟩) 0 rfl ?_
  show AW κ pX12_warmOf 2 (some (aL q.1), q.2) 0 [some (aR 12 0 0), some (aL v1), none] [] σ
  refine aw_seq [(.lload_n 1, 1, ax0), (.lconst 0, 1, (axL 0)), (.lcmp, 1, ax0)] (pc' := 3) (L' := [some (aR 12 0 0), some (aL v1), none]) (stk' := [aI (lg_cmp v1 0)]) (σ' := σ) (g := []) (by decide +kernel) rfl rfl ?_
  refine aw_if_lt (off := 26) (tgt := 29) (by decide +kernel) (by decide) (fun c1 => ?_) (fun c1 => ?_)
  · rw [if_pos c1] at h
    refine aw_forget (L' := [none, none, none]) (lsub_n (lsub_n (lsub_n (lsub_0)))) ?_
    exact ok_X12_warmOf_29 σ _ h
  · rw [if_neg c1] at h
    obtain ⟨hg, h⟩ := grd_some h
    refine aw_seq [(.lload_n 1, 1, ax0), (.aload_n 0, 1, ax0), (.getfield 7, 3, (axF 12 0 (2, 1, 13, some 1986))), (.iconst 0, 1, (axI 0)), (.iaload, 1, ax0), (.i2l, 1, ax0), (.lcmp, 1, ax0)] (pc' := 15) (L' := [some (aR 12 0 0), some (aL v1), none]) (stk' := [aI (lg_cmp v1 (Int32.toInt64 (σ.1 1 (ix 0))))]) (σ' := σ) (g := [inb 0 1986]) (by decide +kernel) rfl hg ?_
    refine aw_if_ge (off := 14) (tgt := 29) (by decide +kernel) (by decide) (fun c1 => ?_) (fun c1 => ?_)
    · rw [if_pos c1] at h
      refine aw_forget (L' := [none, none, none]) (lsub_n (lsub_n (lsub_n (lsub_0)))) ?_
      exact ok_X12_warmOf_29 σ _ h
    · rw [if_neg c1] at h
      refine aw_seq [(.aload_n 0, 1, ax0), (.lload_n 1, 1, ax0), (.l2i, 1, ax0), (.iconst 1, 1, (axI 1))] (pc' := 22) (L' := [some (aR 12 0 0), some (aL v1), none]) (stk' := [aI 1, aI (Int64.toInt32 v1), aR 12 0 0]) (σ' := σ) (g := []) (by decide +kernel) rfl rfl ?_
      obtain ⟨r3, σ2, h1, h⟩ := bnd_some h
      refine aw_cV (P' := pX12_get) (idx := 77) (d' := 1) (c := 12) (n := 0) (k := 0) [aI (Int64.toInt32 v1), aI 1] [] (ov := (some (aI r3))) (stk2 := [aI r3]) okp_X12_get (by decide +kernel) ml_RX12_77 vok_X12_get (by decide) rfl nar_X12_get (by decide) rfl (Nat.le_of_ble_eq_true rfl) (ok_X12_get h1) rfl ?_
      refine aw_seq [(.i2l, 1, ax0)] (pc' := 26) (L' := [some (aR 12 0 0), some (aL v1), none]) (stk' := [aL (Int32.toInt64 r3)]) (σ' := σ2) (g := []) (by decide +kernel) rfl rfl ?_
      refine aw_goto (off := 4) (tgt := 30) (by decide +kernel) (by decide) ?_
      refine aw_forget (L' := [none, none, none]) (lsub_n (lsub_n (lsub_n (lsub_0)))) ?_
      exact ok_X12_warmOf_30 (Int32.toInt64 r3) σ2 _ h
def f_X12_joined_35   (s0 : Int32) (σ : Sg) : Option (Int32 × Sg) :=
  grd (bz s0) <| some (s0, σ)
set_option maxRecDepth 100000 in
set_option maxHeartbeats 4000000 in
theorem ok_X12_joined_35 {κ : Kd}    : ∀ (s0 : Int32) (σ : Sg) (q : (Int32 × Sg)), f_X12_joined_35 s0 σ = some q → AW κ pX12_joined 1 (some (aI q.1), q.2) 35 [none, none, none] [aI s0] σ := by
  intro s0 σ q h
  unfold f_X12_joined_35 at h
  obtain ⟨hg, h⟩ := grd_some h
  cases h
  exact aw_zret rfl hg (by decide +kernel)
def f_X12_joined_18    (σ : Sg) : Option (Int32 × Sg) :=
  f_X12_joined_35 0 σ
set_option maxRecDepth 100000 in
set_option maxHeartbeats 4000000 in
theorem ok_X12_joined_18 {κ : Kd}    : ∀  (σ : Sg) (q : (Int32 × Sg)), f_X12_joined_18  σ = some q → AW κ pX12_joined 1 (some (aI q.1), q.2) 18 [none, none, none] [] σ := by
  intro  σ q h
  unfold f_X12_joined_18 at h
  refine aw_seq [(.iconst 0, 1, (axI 0))] (pc' := 19) (L' := [none, none, none]) (stk' := [aI 0]) (σ' := σ) (g := []) (by decide +kernel) rfl rfl ?_
  refine aw_goto (off := 16) (tgt := 35) (by decide +kernel) (by decide) ?_
  refine aw_forget (L' := [none, none, none]) (lsub_n (lsub_n (lsub_n (lsub_0)))) ?_
  exact ok_X12_joined_35 0 σ _ h
def f_X12_joined_30    (σ : Sg) : Option (Int32 × Sg) :=
  f_X12_joined_35 1 σ
set_option maxRecDepth 100000 in
set_option maxHeartbeats 4000000 in
theorem ok_X12_joined_30 {κ : Kd}    : ∀  (σ : Sg) (q : (Int32 × Sg)), f_X12_joined_30  σ = some q → AW κ pX12_joined 1 (some (aI q.1), q.2) 30 [none, none, none] [] σ := by
  intro  σ q h
  unfold f_X12_joined_30 at h
  refine aw_seq [(.iconst 1, 1, (axI 1))] (pc' := 31) (L' := [none, none, none]) (stk' := [aI 1]) (σ' := σ) (g := []) (by decide +kernel) rfl rfl ?_
  refine aw_goto (off := 4) (tgt := 35) (by decide +kernel) (by decide) ?_
  refine aw_forget (L' := [none, none, none]) (lsub_n (lsub_n (lsub_n (lsub_0)))) ?_
  exact ok_X12_joined_35 1 σ _ h
def f_X12_joined (v0 : Int32) (v1 : Int32) (v2 : Int32) (σ : Sg) : Option (Int32 × Sg) :=
  if v0 = 21 then (
    if v1 = 0 then (
      f_X12_joined_18 σ
    ) else (
      if v2 = 0 then (
        f_X12_joined_18 σ
      ) else (
        f_X12_joined_35 1 σ
      )
    )
  ) else (
    if v1 = 0 then (
      if v2 = 0 then (
        f_X12_joined_35 0 σ
      ) else (
        f_X12_joined_30 σ
      )
    ) else (
      f_X12_joined_30 σ
    )
  )
set_option maxRecDepth 100000 in
set_option maxHeartbeats 4000000 in
theorem ok_X12_joined {κ : Kd} {v0 : Int32} {v1 : Int32} {v2 : Int32} {σ : Sg} {q : (Int32 × Sg)} (h : f_X12_joined v0 v1 v2 σ = some q) : AMet κ pX12_joined 1 [aI v0, aI v1, aI v2] σ (some (aI q.1), q.2) := by
  unfold f_X12_joined at h
  refine amet_of okp_X12_joined [(false, aI v0), (false, aI v1), (false, aI v2)] (List.forall_mem_cons.mpr ⟨rfl, List.forall_mem_cons.mpr ⟨rfl, List.forall_mem_cons.mpr ⟨rfl, (fun _ hn => absurd hn List.not_mem_nil)⟩⟩⟩) 0 rfl ?_
  show AW κ pX12_joined 1 (some (aI q.1), q.2) 0 [some (aI v0), some (aI v1), some (aI v2)] [] σ
  refine aw_seq [(.iload_n 0, 1, ax0), (.bipush 21, 2, (axI 21))] (pc' := 3) (L' := [some (aI v0), some (aI v1), some (aI v2)]) (stk' := [aI 21, aI v0]) (σ' := σ) (g := []) (by decide +kernel) rfl rfl ?_
  refine aw_icmp_ne (off := 19) (tgt := 22) (by decide +kernel) (by decide) (fun c1 => ?_) (fun c1 => ?_)
  · rw [if_neg c1] at h
    refine aw_seq [(.iload_n 1, 1, ax0)] (pc' := 23) (L' := [some (aI v0), some (aI v1), some (aI v2)]) (stk' := [aI v1]) (σ' := σ) (g := []) (by decide +kernel) rfl rfl ?_
    refine aw_if_ne (off := 7) (tgt := 30) (by decide +kernel) (by decide) (fun c1 => ?_) (fun c1 => ?_)
    · rw [if_neg c1] at h
      refine aw_forget (L' := [none, none, none]) (lsub_n (lsub_n (lsub_n (lsub_0)))) ?_
      exact ok_X12_joined_30 σ _ h
    · rw [if_pos c1] at h
      refine aw_seq [(.iload_n 2, 1, ax0)] (pc' := 27) (L' := [some (aI v0), some (aI v1), some (aI v2)]) (stk' := [aI v2]) (σ' := σ) (g := []) (by decide +kernel) rfl rfl ?_
      refine aw_if_eq (off := 7) (tgt := 34) (by decide +kernel) (by decide) (fun c1 => ?_) (fun c1 => ?_)
      · rw [if_pos c1] at h
        refine aw_seq [(.iconst 0, 1, (axI 0))] (pc' := 35) (L' := [some (aI v0), some (aI v1), some (aI v2)]) (stk' := [aI 0]) (σ' := σ) (g := []) (by decide +kernel) rfl rfl ?_
        refine aw_forget (L' := [none, none, none]) (lsub_n (lsub_n (lsub_n (lsub_0)))) ?_
        exact ok_X12_joined_35 0 σ _ h
      · rw [if_neg c1] at h
        refine aw_forget (L' := [none, none, none]) (lsub_n (lsub_n (lsub_n (lsub_0)))) ?_
        exact ok_X12_joined_30 σ _ h
  · rw [if_pos c1] at h
    refine aw_seq [(.iload_n 1, 1, ax0)] (pc' := 7) (L' := [some (aI v0), some (aI v1), some (aI v2)]) (stk' := [aI v1]) (σ' := σ) (g := []) (by decide +kernel) rfl rfl ?_
    refine aw_if_eq (off := 11) (tgt := 18) (by decide +kernel) (by decide) (fun c1 => ?_) (fun c1 => ?_)
    · rw [if_pos c1] at h
      refine aw_forget (L' := [none, none, none]) (lsub_n (lsub_n (lsub_n (lsub_0)))) ?_
      exact ok_X12_joined_18 σ _ h
    · rw [if_neg c1] at h
      refine aw_seq [(.iload_n 2, 1, ax0)] (pc' := 11) (L' := [some (aI v0), some (aI v1), some (aI v2)]) (stk' := [aI v2]) (σ' := σ) (g := []) (by decide +kernel) rfl rfl ?_
      refine aw_if_eq (off := 7) (tgt := 18) (by decide +kernel) (by decide) (fun c1 => ?_) (fun c1 => ?_)
      · rw [if_pos c1] at h
        refine aw_forget (L' := [none, none, none]) (lsub_n (lsub_n (lsub_n (lsub_0)))) ?_
        exact ok_X12_joined_18 σ _ h
      · rw [if_neg c1] at h
        refine aw_seq [(.iconst 1, 1, (axI 1))] (pc' := 15) (L' := [some (aI v0), some (aI v1), some (aI v2)]) (stk' := [aI 1]) (σ' := σ) (g := []) (by decide +kernel) rfl rfl ?_
        refine aw_goto (off := 20) (tgt := 35) (by decide +kernel) (by decide) ?_
        refine aw_forget (L' := [none, none, none]) (lsub_n (lsub_n (lsub_n (lsub_0)))) ?_
        exact ok_X12_joined_35 1 σ _ h
