/-! printed by wip/whole/gen4.py from the class file: light, turned, cover, open, quench, isGiver, canFetch, fetchNow, fetch, wardenNow, warden, arePassed, hour, isPlayed, played, happens, winters, of, is, entry, book, befell -/
def f_X12_light (v1 : Int32) (σ : Sg) : Option (Int32 × Sg) :=
  bnd (f_X12_isSo v1 0 σ) fun r3 σ2 =>
  if r3 = 0 then (
    some (0, σ2)
  ) else (
    bndV (f_X12_keep σ2) fun σ5 =>
    bndV (f_X12_lightNow v1 σ5) fun σ7 =>
    some (1, σ7)
  )
set_option maxRecDepth 100000 in
set_option maxHeartbeats 4000000 in
theorem ok_X12_light {κ : Kd} {v1 : Int32} {σ : Sg} {q : (Int32 × Sg)} (h : f_X12_light v1 σ = some q) : AMet κ pX12_light 4 [aR 12 0 0, aI v1] σ (some (aI q.1), q.2) := by
  unfold f_X12_light at h
  refine amet_of okp_X12_light [(false, aR 12 0 0), (false, aI v1)] (List.forall_mem_cons.mpr ⟨rfl, List.forall_mem_cons.mpr ⟨rfl, (fun _ hn => absurd hn List.not_mem_nil)⟩⟩) 0 rfl ?_
  show AW κ pX12_light 4 (some (aI q.1), q.2) 0 [some (aR 12 0 0), some (aI v1)] [] σ
  refine aw_seq [(.aload_n 0, 1, ax0), (.iload_n 1, 1, ax0), (.iconst 0, 1, (axI 0))] (pc' := 3) (L' := [some (aR 12 0 0), some (aI v1)]) (stk' := [aI 0, aI v1, aR 12 0 0]) (σ' := σ) (g := []) (by decide +kernel) rfl rfl ?_
  obtain ⟨r3, σ2, h1, h⟩ := bnd_some h
  refine aw_cV (P' := pX12_isSo) (idx := 352) (d' := 3) (c := 12) (n := 0) (k := 0) [aI v1, aI 0] [] (ov := (some (aI r3))) (stk2 := [aI r3]) okp_X12_isSo (by decide +kernel) ml_RX12_352 vok_X12_isSo (by decide) rfl nar_X12_isSo (by decide) rfl (Nat.le_of_ble_eq_true rfl) (ok_X12_isSo h1) rfl ?_
  refine aw_if_ne (off := 5) (tgt := 11) (by decide +kernel) (by decide) (fun c1 => ?_) (fun c1 => ?_)
  · rw [if_neg c1] at h
    refine aw_seq [(.aload_n 0, 1, ax0)] (pc' := 12) (L' := [some (aR 12 0 0), some (aI v1)]) (stk' := [aR 12 0 0]) (σ' := σ2) (g := []) (by decide +kernel) rfl rfl ?_
    obtain ⟨σ5, h4, h⟩ := bndV_some h
    refine aw_cV (P' := pX12_keep) (idx := 355) (d' := 2) (c := 12) (n := 0) (k := 0) [] [] (ov := none) (stk2 := []) okp_X12_keep (by decide +kernel) ml_RX12_355 vok_X12_keep (by decide) rfl nar_X12_keep (by decide) rfl (Nat.le_of_ble_eq_true rfl) (ok_X12_keep h4) rfl ?_
    refine aw_seq [(.aload_n 0, 1, ax0), (.iload_n 1, 1, ax0)] (pc' := 17) (L' := [some (aR 12 0 0), some (aI v1)]) (stk' := [aI v1, aR 12 0 0]) (σ' := σ5) (g := []) (by decide +kernel) rfl rfl ?_
    obtain ⟨σ7, h6, h⟩ := bndV_some h
    refine aw_cV (P' := pX12_lightNow) (idx := 358) (d' := 2) (c := 12) (n := 0) (k := 0) [aI v1] [] (ov := none) (stk2 := []) okp_X12_lightNow (by decide +kernel) ml_RX12_358 vok_X12_lightNow (by decide) rfl nar_X12_lightNow (by decide) rfl (Nat.le_of_ble_eq_true rfl) (ok_X12_lightNow h6) rfl ?_
    refine aw_seq [(.iconst 1, 1, (axI 1))] (pc' := 21) (L' := [some (aR 12 0 0), some (aI v1)]) (stk' := [aI 1]) (σ' := σ7) (g := []) (by decide +kernel) rfl rfl ?_
    cases h
    exact aw_zret rfl bz_1 (by decide +kernel)
  · rw [if_pos c1] at h
    refine aw_seq [(.iconst 0, 1, (axI 0))] (pc' := 10) (L' := [some (aR 12 0 0), some (aI v1)]) (stk' := [aI 0]) (σ' := σ2) (g := []) (by decide +kernel) rfl rfl ?_
    cases h
    exact aw_zret rfl bz_0 (by decide +kernel)
def f_X12_turned (v1 : Int32) (v2 : Int32) (v3 : Int32) (σ : Sg) : Option (Int32 × Sg) :=
  bnd (f_X12_isSo v1 v2 σ) fun r3 σ2 =>
  if r3 = 0 then (
    some (0, σ2)
  ) else (
    bndV (f_X12_keep σ2) fun σ5 =>
    bndV (f_X12_put v1 0 v3 σ5) fun σ7 =>
    some (1, σ7)
  )
set_option maxRecDepth 100000 in
set_option maxHeartbeats 4000000 in
theorem ok_X12_turned {κ : Kd} {v1 : Int32} {v2 : Int32} {v3 : Int32} {σ : Sg} {q : (Int32 × Sg)} (h : f_X12_turned v1 v2 v3 σ = some q) : AMet κ pX12_turned 4 [aR 12 0 0, aI v1, aI v2, aI v3] σ (some (aI q.1), q.2) := by
  unfold f_X12_turned at h
  refine amet_of okp_X12_turned [(false, aR 12 0 0), (false, aI v1), (false, aI v2), (false, aI v3)] (List.forall_mem_cons.mpr ⟨rfl, List.forall_mem_cons.mpr ⟨rfl, List.forall_mem_cons.mpr ⟨rfl, List.forall_mem_cons.mpr ⟨rfl, (fun _ hn => absurd hn List.not_mem_nil)⟩⟩⟩⟩) 0 rfl ?_
  show AW κ pX12_turned 4 (some (aI q.1), q.2) 0 [some (aR 12 0 0), some (aI v1), some (aI v2), some (aI v3)] [] σ
  refine aw_seq [(.aload_n 0, 1, ax0), (.iload_n 1, 1, ax0), (.iload_n 2, 1, ax0)] (pc' := 3) (L' := [some (aR 12 0 0), some (aI v1), some (aI v2), some (aI v3)]) (stk' := [aI v2, aI v1, aR 12 0 0]) (σ' := σ) (g := []) (by decide +kernel) rfl rfl ?_
  obtain ⟨r3, σ2, h1, h⟩ := bnd_some h
  refine aw_cV (P' := pX12_isSo) (idx := 352) (d' := 3) (c := 12) (n := 0) (k := 0) [aI v1, aI v2] [] (ov := (some (aI r3))) (stk2 := [aI r3]) okp_X12_isSo (by decide +kernel) ml_RX12_352 vok_X12_isSo (by decide) rfl nar_X12_isSo (by decide) rfl (Nat.le_of_ble_eq_true rfl) (ok_X12_isSo h1) rfl ?_
  refine aw_if_ne (off := 5) (tgt := 11) (by decide +kernel) (by decide) (fun c1 => ?_) (fun c1 => ?_)
  · rw [if_neg c1] at h
    refine aw_seq [(.aload_n 0, 1, ax0)] (pc' := 12) (L' := [some (aR 12 0 0), some (aI v1), some (aI v2), some (aI v3)]) (stk' := [aR 12 0 0]) (σ' := σ2) (g := []) (by decide +kernel) rfl rfl ?_
    obtain ⟨σ5, h4, h⟩ := bndV_some h
    refine aw_cV (P' := pX12_keep) (idx := 355) (d' := 2) (c := 12) (n := 0) (k := 0) [] [] (ov := none) (stk2 := []) okp_X12_keep (by decide +kernel) ml_RX12_355 vok_X12_keep (by decide) rfl nar_X12_keep (by decide) rfl (Nat.le_of_ble_eq_true rfl) (ok_X12_keep h4) rfl ?_
    refine aw_seq [(.aload_n 0, 1, ax0), (.iload_n 1, 1, ax0), (.iconst 0, 1, (axI 0)), (.iload_n 3, 1, ax0)] (pc' := 19) (L' := [some (aR 12 0 0), some (aI v1), some (aI v2), some (aI v3)]) (stk' := [aI v3, aI 0, aI v1, aR 12 0 0]) (σ' := σ5) (g := []) (by decide +kernel) rfl rfl ?_
    obtain ⟨σ7, h6, h⟩ := bndV_some h
    refine aw_cV (P' := pX12_put) (idx := 80) (d' := 1) (c := 12) (n := 0) (k := 0) [aI v1, aI 0, aI v3] [] (ov := none) (stk2 := []) okp_X12_put (by decide +kernel) ml_RX12_80 vok_X12_put (by decide) rfl nar_X12_put (by decide) rfl (Nat.le_of_ble_eq_true rfl) (ok_X12_put h6) rfl ?_
    refine aw_seq [(.iconst 1, 1, (axI 1))] (pc' := 23) (L' := [some (aR 12 0 0), some (aI v1), some (aI v2), some (aI v3)]) (stk' := [aI 1]) (σ' := σ7) (g := []) (by decide +kernel) rfl rfl ?_
    cases h
    exact aw_zret rfl bz_1 (by decide +kernel)
  · rw [if_pos c1] at h
    refine aw_seq [(.iconst 0, 1, (axI 0))] (pc' := 10) (L' := [some (aR 12 0 0), some (aI v1), some (aI v2), some (aI v3)]) (stk' := [aI 0]) (σ' := σ2) (g := []) (by decide +kernel) rfl rfl ?_
    cases h
    exact aw_zret rfl bz_0 (by decide +kernel)
def f_X12_cover (v1 : Int32) (σ : Sg) : Option (Int32 × Sg) :=
  bnd (f_X12_turned v1 2 1 σ) fun r3 σ2 =>
  grd (bz r3) <| some (r3, σ2)
set_option maxRecDepth 100000 in
set_option maxHeartbeats 4000000 in
theorem ok_X12_cover {κ : Kd} {v1 : Int32} {σ : Sg} {q : (Int32 × Sg)} (h : f_X12_cover v1 σ = some q) : AMet κ pX12_cover 5 [aR 12 0 0, aI v1] σ (some (aI q.1), q.2) := by
  unfold f_X12_cover at h
  refine amet_of okp_X12_cover [(false, aR 12 0 0), (false, aI v1)] (List.forall_mem_cons.mpr ⟨rfl, List.forall_mem_cons.mpr ⟨rfl, (fun _ hn => absurd hn List.not_mem_nil)⟩⟩) 0 rfl ?_
  show AW κ pX12_cover 5 (some (aI q.1), q.2) 0 [some (aR 12 0 0), some (aI v1)] [] σ
  refine aw_seq [(.aload_n 0, 1, ax0), (.iload_n 1, 1, ax0), (.iconst 2, 1, (axI 2)), (.iconst 1, 1, (axI 1))] (pc' := 4) (L' := [some (aR 12 0 0), some (aI v1)]) (stk' := [aI 1, aI 2, aI v1, aR 12 0 0]) (σ' := σ) (g := []) (by decide +kernel) rfl rfl ?_
  obtain ⟨r3, σ2, h1, h⟩ := bnd_some h
  refine aw_cV (P' := pX12_turned) (idx := 361) (d' := 4) (c := 12) (n := 0) (k := 0) [aI v1, aI 2, aI 1] [] (ov := (some (aI r3))) (stk2 := [aI r3]) okp_X12_turned (by decide +kernel) ml_RX12_361 vok_X12_turned (by decide) rfl nar_X12_turned (by decide) rfl (Nat.le_of_ble_eq_true rfl) (ok_X12_turned h1) rfl ?_
  obtain ⟨hg, h⟩ := grd_some h
  cases h
  exact aw_zret rfl hg (by decide +kernel)
def f_X12_open (v1 : Int32) (σ : Sg) : Option (Int32 × Sg) :=
  bnd (f_X12_turned v1 1 2 σ) fun r3 σ2 =>
  grd (bz r3) <| some (r3, σ2)
set_option maxRecDepth 100000 in
set_option maxHeartbeats 4000000 in
theorem ok_X12_open {κ : Kd} {v1 : Int32} {σ : Sg} {q : (Int32 × Sg)} (h : f_X12_open v1 σ = some q) : AMet κ pX12_open 5 [aR 12 0 0, aI v1] σ (some (aI q.1), q.2) := by
  unfold f_X12_open at h
  refine amet_of okp_X12_open [(false, aR 12 0 0), (false, aI v1)] (List.forall_mem_cons.mpr ⟨rfl, List.forall_mem_cons.mpr ⟨rfl, (fun _ hn => absurd hn List.not_mem_nil)⟩⟩) 0 rfl ?_
  show AW κ pX12_open 5 (some (aI q.1), q.2) 0 [some (aR 12 0 0), some (aI v1)] [] σ
  refine aw_seq [(.aload_n 0, 1, ax0), (.iload_n 1, 1, ax0), (.iconst 1, 1, (axI 1)), (.iconst 2, 1, (axI 2))] (pc' := 4) (L' := [some (aR 12 0 0), some (aI v1)]) (stk' := [aI 2, aI 1, aI v1, aR 12 0 0]) (σ' := σ) (g := []) (by decide +kernel) rfl rfl ?_
  obtain ⟨r3, σ2, h1, h⟩ := bnd_some h
  refine aw_cV (P' := pX12_turned) (idx := 361) (d' := 4) (c := 12) (n := 0) (k := 0) [aI v1, aI 1, aI 2] [] (ov := (some (aI r3))) (stk2 := [aI r3]) okp_X12_turned (by decide +kernel) ml_RX12_361 vok_X12_turned (by decide) rfl nar_X12_turned (by decide) rfl (Nat.le_of_ble_eq_true rfl) (ok_X12_turned h1) rfl ?_
  obtain ⟨hg, h⟩ := grd_some h
  cases h
  exact aw_zret rfl hg (by decide +kernel)
def f_X12_quench (v1 : Int32) (σ : Sg) : Option (Int32 × Sg) :=
  bnd (f_X12_turned v1 3 0 σ) fun r3 σ2 =>
  if r3 = 0 then (
    some (0, σ2)
  ) else (
    bndV (f_X12_put v1 1 0 σ2) fun σ5 =>
    some (1, σ5)
  )
set_option maxRecDepth 100000 in
set_option maxHeartbeats 4000000 in
theorem ok_X12_quench {κ : Kd} {v1 : Int32} {σ : Sg} {q : (Int32 × Sg)} (h : f_X12_quench v1 σ = some q) : AMet κ pX12_quench 5 [aR 12 0 0, aI v1] σ (some (aI q.1), q.2) := by
  unfold f_X12_quench at h
  refine amet_of okp_X12_quench [(false, aR 12 0 0), (false, aI v1)] (List.forall_mem_cons.mpr ⟨rfl, List.forall_mem_cons.mpr ⟨rfl, (fun _ hn => absurd hn List.not_mem_nil)⟩⟩) 0 rfl ?_
  show AW κ pX12_quench 5 (some (aI q.1), q.2) 0 [some (aR 12 0 0), some (aI v1)] [] σ
  refine aw_seq [(.aload_n 0, 1, ax0), (.iload_n 1, 1, ax0), (.iconst 3, 1, (axI 3)), (.iconst 0, 1, (axI 0))] (pc' := 4) (L' := [some (aR 12 0 0), some (aI v1)]) (stk' := [aI 0, aI 3, aI v1, aR 12 0 0]) (σ' := σ) (g := []) (by decide +kernel) rfl rfl ?_
  obtain ⟨r3, σ2, h1, h⟩ := bnd_some h
  refine aw_cV (P' := pX12_turned) (idx := 361) (d' := 4) (c := 12) (n := 0) (k := 0) [aI v1, aI 3, aI 0] [] (ov := (some (aI r3))) (stk2 := [aI r3]) okp_X12_turned (by decide +kernel) ml_RX12_361 vok_X12_turned (by decide) rfl nar_X12_turned (by decide) rfl (Nat.le_of_ble_eq_true rfl) (ok_X12_turned h1) rfl ?_
  refine aw_if_ne (off := 5) (tgt := 12) (by decide +kernel) (by decide) (fun c1 => ?_) (fun c1 => ?_)
  · rw [if_neg c1] at h
    refine aw_seq [(.aload_n 0, 1, ax0), (.iload_n 1, 1, ax0), (.iconst 1, 1, (axI 1)), (.iconst 0, 1, (axI 0))] (pc' := 16) (L' := [some (aR 12 0 0), some (aI v1)]) (stk' := [aI 0, aI 1, aI v1, aR 12 0 0]) (σ' := σ2) (g := []) (by decide +kernel) rfl rfl ?_
    obtain ⟨σ5, h4, h⟩ := bndV_some h
    refine aw_cV (P' := pX12_put) (idx := 80) (d' := 1) (c := 12) (n := 0) (k := 0) [aI v1, aI 1, aI 0] [] (ov := none) (stk2 := []) okp_X12_put (by decide +kernel) ml_RX12_80 vok_X12_put (by decide) rfl nar_X12_put (by decide) rfl (Nat.le_of_ble_eq_true rfl) (ok_X12_put h4) rfl ?_
    refine aw_seq [(.iconst 1, 1, (axI 1))] (pc' := 20) (L' := [some (aR 12 0 0), some (aI v1)]) (stk' := [aI 1]) (σ' := σ5) (g := []) (by decide +kernel) rfl rfl ?_
    cases h
    exact aw_zret rfl bz_1 (by decide +kernel)
  · rw [if_pos c1] at h
    refine aw_seq [(.iconst 0, 1, (axI 0))] (pc' := 11) (L' := [some (aR 12 0 0), some (aI v1)]) (stk' := [aI 0]) (σ' := σ2) (g := []) (by decide +kernel) rfl rfl ?_
    cases h
    exact aw_zret rfl bz_0 (by decide +kernel)
def f_X12_isGiver_31   (s0 : Int32) (σ : Sg) : Option (Int32 × Sg) :=
  grd (bz s0) <| some (s0, σ)
set_option maxRecDepth 100000 in
set_option maxHeartbeats 4000000 in
theorem ok_X12_isGiver_31 {κ : Kd}    : ∀ (s0 : Int32) (σ : Sg) (q : (Int32 × Sg)), f_X12_isGiver_31 s0 σ = some q → AW κ pX12_isGiver 3 (some (aI q.1), q.2) 31 [none, none] [aI s0] σ := by
  intro s0 σ q h
  unfold f_X12_isGiver_31 at h
  obtain ⟨hg, h⟩ := grd_some h
  cases h
  exact aw_zret rfl hg (by decide +kernel)
def f_X12_isGiver_30    (σ : Sg) : Option (Int32 × Sg) :=
  f_X12_isGiver_31 0 σ
set_option maxRecDepth 100000 in
set_option maxHeartbeats 4000000 in
theorem ok_X12_isGiver_30 {κ : Kd}    : ∀  (σ : Sg) (q : (Int32 × Sg)), f_X12_isGiver_30  σ = some q → AW κ pX12_isGiver 3 (some (aI q.1), q.2) 30 [none, none] [] σ := by
  intro  σ q h
  unfold f_X12_isGiver_30 at h
  refine aw_seq [(.iconst 0, 1, (axI 0))] (pc' := 31) (L' := [none, none]) (stk' := [aI 0]) (σ' := σ) (g := []) (by decide +kernel) rfl rfl ?_
  refine aw_forget (L' := [none, none]) (lsub_n (lsub_n (lsub_0))) ?_
  exact ok_X12_isGiver_31 0 σ _ h
def f_X12_isGiver (v1 : Int32) (σ : Sg) : Option (Int32 × Sg) :=
  bnd (f_X12_isHouse v1 σ) fun r3 σ2 =>
  if r3 = 0 then (
    f_X12_isGiver_30 σ2
  ) else (
    bnd (f_X12_isAlight v1 σ2) fun r6 σ5 =>
    if r6 = 0 then (
      f_X12_isGiver_30 σ5
    ) else (
      bnd (f_X12_get v1 1 σ5) fun r9 σ8 =>
      if r9 ≤ 1 then (
        f_X12_isGiver_30 σ8
      ) else (
        f_X12_isGiver_31 1 σ8
      )
    )
  )
set_option maxRecDepth 100000 in
set_option maxHeartbeats 4000000 in
theorem ok_X12_isGiver {κ : Kd} {v1 : Int32} {σ : Sg} {q : (Int32 × Sg)} (h : f_X12_isGiver v1 σ = some q) : AMet κ pX12_isGiver 3 [aR 12 0 0, aI v1] σ (some (aI q.1), q.2) := by
  unfold f_X12_isGiver at h
  refine amet_of okp_X12_isGiver [(false, aR 12 0 0), (false, aI v1)] (List.forall_mem_cons.mpr ⟨rfl, List.forall_mem_cons.mpr ⟨rfl, (fun _ hn => absurd hn List.not_mem_nil)⟩⟩) 0 rfl ?_
  show AW κ pX12_isGiver 3 (some (aI q.1), q.2) 0 [some (aR 12 0 0), some (aI v1)] [] σ
  refine aw_seq [(.aload_n 0, 1, ax0), (.iload_n 1, 1, ax0)] (pc' := 2) (L' := [some (aR 12 0 0), some (aI v1)]) (stk' := [aI v1, aR 12 0 0]) (σ' := σ) (g := []) (by decide +kernel) rfl rfl ?_
  obtain ⟨r3, σ2, h1, h⟩ := bnd_some h
  refine aw_cV (P' := pX12_isHouse) (idx := 88) (d' := 2) (c := 12) (n := 0) (k := 0) [aI v1] [] (ov := (some (aI r3))) (stk2 := [aI r3]) okp_X12_isHouse (by decide +kernel) ml_RX12_88 vok_X12_isHouse (by decide) rfl nar_X12_isHouse (by decide) rfl (Nat.le_of_ble_eq_true rfl) (ok_X12_isHouse h1) rfl ?_
  refine aw_if_eq (off := 25) (tgt := 30) (by decide +kernel) (by decide) (fun c1 => ?_) (fun c1 => ?_)
  · rw [if_pos c1] at h
    refine aw_forget (L' := [none, none]) (lsub_n (lsub_n (lsub_0))) ?_
    exact ok_X12_isGiver_30 σ2 _ h
  · rw [if_neg c1] at h
    refine aw_seq [(.aload_n 0, 1, ax0), (.iload_n 1, 1, ax0)] (pc' := 10) (L' := [some (aR 12 0 0), some (aI v1)]) (stk' := [aI v1, aR 12 0 0]) (σ' := σ2) (g := []) (by decide +kernel) rfl rfl ?_
    obtain ⟨r6, σ5, h4, h⟩ := bnd_some h
    refine aw_cV (P' := pX12_isAlight) (idx := 331) (d' := 2) (c := 12) (n := 0) (k := 0) [aI v1] [] (ov := (some (aI r6))) (stk2 := [aI r6]) okp_X12_isAlight (by decide +kernel) ml_RX12_331 vok_X12_isAlight (by decide) rfl nar_X12_isAlight (by decide) rfl (Nat.le_of_ble_eq_true rfl) (ok_X12_isAlight h4) rfl ?_
    refine aw_if_eq (off := 17) (tgt := 30) (by decide +kernel) (by decide) (fun c1 => ?_) (fun c1 => ?_)
    · rw [if_pos c1] at h
      refine aw_forget (L' := [none, none]) (lsub_n (lsub_n (lsub_0))) ?_
      exact ok_X12_isGiver_30 σ5 _ h
    · rw [if_neg c1] at h
      refine aw_seq [(.aload_n 0, 1, ax0), (.iload_n 1, 1, ax0), (.iconst 1, 1, (axI 1))] (pc' := 19) (L' := [some (aR 12 0 0), some (aI v1)]) (stk' := [aI 1, aI v1, aR 12 0 0]) (σ' := σ5) (g := []) (by decide +kernel) rfl rfl ?_
      obtain ⟨r9, σ8, h7, h⟩ := bnd_some h
      refine aw_cV (P' := pX12_get) (idx := 77) (d' := 1) (c := 12) (n := 0) (k := 0) [aI v1, aI 1] [] (ov := (some (aI r9))) (stk2 := [aI r9]) okp_X12_get (by decide +kernel) ml_RX12_77 vok_X12_get (by decide) rfl nar_X12_get (by decide) rfl (Nat.le_of_ble_eq_true rfl) (ok_X12_get h7) rfl ?_
      refine aw_seq [(.iconst 1, 1, (axI 1))] (pc' := 23) (L' := [some (aR 12 0 0), some (aI v1)]) (stk' := [aI 1, aI r9]) (σ' := σ8) (g := []) (by decide +kernel) rfl rfl ?_
      refine aw_icmp_le (off := 7) (tgt := 30) (by decide +kernel) (by decide) (fun c1 => ?_) (fun c1 => ?_)
      · rw [if_pos c1] at h
        refine aw_forget (L' := [none, none]) (lsub_n (lsub_n (lsub_0))) ?_
        exact ok_X12_isGiver_30 σ8 _ h
      · rw [if_neg c1] at h
        refine aw_seq [(.iconst 1, 1, (axI 1))] (pc' := 27) (L' := [some (aR 12 0 0), some (aI v1)]) (stk' := [aI 1]) (σ' := σ8) (g := []) (by decide +kernel) rfl rfl ?_
        refine aw_goto (off := 4) (tgt := 31) (by decide +kernel) (by decide) ?_
        refine aw_forget (L' := [none, none]) (lsub_n (lsub_n (lsub_0))) ?_
        exact ok_X12_isGiver_31 1 σ8 _ h
def f_X12_canFetch_31   (s0 : Int32) (σ : Sg) : Option (Int32 × Sg) :=
  grd (bz s0) <| some (s0, σ)
set_option maxRecDepth 100000 in
set_option maxHeartbeats 4000000 in
theorem ok_X12_canFetch_31 {κ : Kd}    : ∀ (s0 : Int32) (σ : Sg) (q : (Int32 × Sg)), f_X12_canFetch_31 s0 σ = some q → AW κ pX12_canFetch 4 (some (aI q.1), q.2) 31 [none, none, none] [aI s0] σ := by
  intro s0 σ q h
  unfold f_X12_canFetch_31 at h
  obtain ⟨hg, h⟩ := grd_some h
  cases h
  exact aw_zret rfl hg (by decide +kernel)
def f_X12_canFetch_30    (σ : Sg) : Option (Int32 × Sg) :=
  f_X12_canFetch_31 0 σ
set_option maxRecDepth 100000 in
set_option maxHeartbeats 4000000 in
theorem ok_X12_canFetch_30 {κ : Kd}    : ∀  (σ : Sg) (q : (Int32 × Sg)), f_X12_canFetch_30  σ = some q → AW κ pX12_canFetch 4 (some (aI q.1), q.2) 30 [none, none, none] [] σ := by
  intro  σ q h
  unfold f_X12_canFetch_30 at h
  refine aw_seq [(.iconst 0, 1, (axI 0))] (pc' := 31) (L' := [none, none, none]) (stk' := [aI 0]) (σ' := σ) (g := []) (by decide +kernel) rfl rfl ?_
  refine aw_forget (L' := [none, none, none]) (lsub_n (lsub_n (lsub_n (lsub_0)))) ?_
  exact ok_X12_canFetch_31 0 σ _ h
def f_X12_canFetch (v1 : Int32) (v2 : Int32) (σ : Sg) : Option (Int32 × Sg) :=
  bnd (f_X12_isSo v1 0 σ) fun r3 σ2 =>
  if r3 = 0 then (
    f_X12_canFetch_30 σ2
  ) else (
    bnd (f_X12_isGiver v2 σ2) fun r6 σ5 =>
    if r6 = 0 then (
      f_X12_canFetch_30 σ5
    ) else (
      bnd (f_X12_lengthOf v1 v2 σ5) fun r9 σ8 =>
      if r9 ≤ 0 then (
        f_X12_canFetch_30 σ8
      ) else (
        f_X12_canFetch_31 1 σ8
      )
    )
  )
set_option maxRecDepth 100000 in
set_option maxHeartbeats 4000000 in
theorem ok_X12_canFetch {κ : Kd} {v1 : Int32} {v2 : Int32} {σ : Sg} {q : (Int32 × Sg)} (h : f_X12_canFetch v1 v2 σ = some q) : AMet κ pX12_canFetch 4 [aR 12 0 0, aI v1, aI v2] σ (some (aI q.1), q.2) := by
  unfold f_X12_canFetch at h
  refine amet_of okp_X12_canFetch [(false, aR 12 0 0), (false, aI v1), (false, aI v2)] (List.forall_mem_cons.mpr ⟨rfl, List.forall_mem_cons.mpr ⟨rfl, List.forall_mem_cons.mpr ⟨rfl, (fun _ hn => absurd hn List.not_mem_nil)⟩⟩⟩) 0 rfl ?_
  show AW κ pX12_canFetch 4 (some (aI q.1), q.2) 0 [some (aR 12 0 0), some (aI v1), some (aI v2)] [] σ
  refine aw_seq [(.aload_n 0, 1, ax0), (.iload_n 1, 1, ax0), (.iconst 0, 1, (axI 0))] (pc' := 3) (L' := [some (aR 12 0 0), some (aI v1), some (aI v2)]) (stk' := [aI 0, aI v1, aR 12 0 0]) (σ' := σ) (g := []) (by decide +kernel) rfl rfl ?_
  obtain ⟨r3, σ2, h1, h⟩ := bnd_some h
  refine aw_cV (P' := pX12_isSo) (idx := 352) (d' := 3) (c := 12) (n := 0) (k := 0) [aI v1, aI 0] [] (ov := (some (aI r3))) (stk2 := [aI r3]) okp_X12_isSo (by decide +kernel) ml_RX12_352 vok_X12_isSo (by decide) rfl nar_X12_isSo (by decide) rfl (Nat.le_of_ble_eq_true rfl) (ok_X12_isSo h1) rfl ?_
  refine aw_if_eq (off := 24) (tgt := 30) (by decide +kernel) (by decide) (fun c1 => ?_) (fun c1 => ?_)
  · rw [if_pos c1] at h
    refine aw_forget (L' := [none, none, none]) (lsub_n (lsub_n (lsub_n (lsub_0)))) ?_
    exact ok_X12_canFetch_30 σ2 _ h
  · rw [if_neg c1] at h
    refine aw_seq [(.aload_n 0, 1, ax0), (.iload_n 2, 1, ax0)] (pc' := 11) (L' := [some (aR 12 0 0), some (aI v1), some (aI v2)]) (stk' := [aI v2, aR 12 0 0]) (σ' := σ2) (g := []) (by decide +kernel) rfl rfl ?_
    obtain ⟨r6, σ5, h4, h⟩ := bnd_some h
    refine aw_cV (P' := pX12_isGiver) (idx := 364) (d' := 3) (c := 12) (n := 0) (k := 0) [aI v2] [] (ov := (some (aI r6))) (stk2 := [aI r6]) okp_X12_isGiver (by decide +kernel) ml_RX12_364 vok_X12_isGiver (by decide) rfl nar_X12_isGiver (by decide) rfl (Nat.le_of_ble_eq_true rfl) (ok_X12_isGiver h4) rfl ?_
    refine aw_if_eq (off := 16) (tgt := 30) (by decide +kernel) (by decide) (fun c1 => ?_) (fun c1 => ?_)
    · rw [if_pos c1] at h
      refine aw_forget (L' := [none, none, none]) (lsub_n (lsub_n (lsub_n (lsub_0)))) ?_
      exact ok_X12_canFetch_30 σ5 _ h
    · rw [if_neg c1] at h
      refine aw_seq [(.aload_n 0, 1, ax0), (.iload_n 1, 1, ax0), (.iload_n 2, 1, ax0)] (pc' := 20) (L' := [some (aR 12 0 0), some (aI v1), some (aI v2)]) (stk' := [aI v2, aI v1, aR 12 0 0]) (σ' := σ5) (g := []) (by decide +kernel) rfl rfl ?_
      obtain ⟨r9, σ8, h7, h⟩ := bnd_some h
      refine aw_cV (P' := pX12_lengthOf) (idx := 73) (d' := 1) (c := 12) (n := 0) (k := 0) [aI v1, aI v2] [] (ov := (some (aI r9))) (stk2 := [aI r9]) okp_X12_lengthOf (by decide +kernel) ml_RX12_73 vok_X12_lengthOf (by decide) rfl nar_X12_lengthOf (by decide) rfl (Nat.le_of_ble_eq_true rfl) (ok_X12_lengthOf h7) rfl ?_
      refine aw_if_le (off := 7) (tgt := 30) (by decide +kernel) (by decide) (fun c1 => ?_) (fun c1 => ?_)
      · rw [if_pos c1] at h
        refine aw_forget (L' := [none, none, none]) (lsub_n (lsub_n (lsub_n (lsub_0)))) ?_
        exact ok_X12_canFetch_30 σ8 _ h
      · rw [if_neg c1] at h
        refine aw_seq [(.iconst 1, 1, (axI 1))] (pc' := 27) (L' := [some (aR 12 0 0), some (aI v1), some (aI v2)]) (stk' := [aI 1]) (σ' := σ8) (g := []) (by decide +kernel) rfl rfl ?_
        refine aw_goto (off := 4) (tgt := 31) (by decide +kernel) (by decide) ?_
        refine aw_forget (L' := [none, none, none]) (lsub_n (lsub_n (lsub_n (lsub_0)))) ?_
        exact ok_X12_canFetch_31 1 σ8 _ h
def f_X12_fetchNow (v1 : Int32) (v2 : Int32) (σ : Sg) : Option Sg :=
  bnd (f_X12_get v2 1 σ) fun r3 σ2 =>
  bndV (f_X12_put v2 1 (r3 - 1) σ2) fun σ5 =>
  bndV (f_X12_put v1 0 2 σ5) fun σ7 =>
  bndV (f_X12_put v1 1 5 σ7) fun σ9 =>
  bndV (f_X12_write v1 1 σ9) fun σ11 =>
  some σ11
set_option maxRecDepth 100000 in
set_option maxHeartbeats 4000000 in
theorem ok_X12_fetchNow {κ : Kd} {v1 : Int32} {v2 : Int32} {σ : Sg} {q : Sg} (h : f_X12_fetchNow v1 v2 σ = some q) : AMet κ pX12_fetchNow 2 [aR 12 0 0, aI v1, aI v2] σ (none, q) := by
  unfold f_X12_fetchNow at h
  refine amet_of okp_X12_fetchNow [(false, aR 12 0 0), (false, aI v1), (false, aI v2)] (List.forall_mem_cons.mpr ⟨rfl, List.forall_mem_cons.mpr ⟨rfl, List.forall_mem_cons.mpr ⟨rfl, (fun _ hn => absurd hn List.not_mem_nil)⟩⟩⟩) 0 rfl ?_
  show AW κ pX12_fetchNow 2 (none, q) 0 [some (aR 12 0 0), some (aI v1), some (aI v2)] [] σ
  refine aw_seq [(.aload_n 0, 1, ax0), (.iload_n 2, 1, ax0), (.iconst 1, 1, (axI 1)), (.aload_n 0, 1, ax0), (.iload_n 2, 1, ax0), (.iconst 1, 1, (axI 1))] (pc' := 6) (L' := [some (aR 12 0 0), some (aI v1), some (aI v2)]) (stk' := [aI 1, aI v2, aR 12 0 0, aI 1, aI v2, aR 12 0 0]) (σ' := σ) (g := []) (by decide +kernel) rfl rfl ?_
  obtain ⟨r3, σ2, h1, h⟩ := bnd_some h
  refine aw_cV (P' := pX12_get) (idx := 77) (d' := 1) (c := 12) (n := 0) (k := 0) [aI v2, aI 1] [aI 1, aI v2, aR 12 0 0] (ov := (some (aI r3))) (stk2 := [aI r3, aI 1, aI v2, aR 12 0 0]) okp_X12_get (by decide +kernel) ml_RX12_77 vok_X12_get (by decide) rfl nar_X12_get (by decide) rfl (Nat.le_of_ble_eq_true rfl) (ok_X12_get h1) rfl ?_
  refine aw_seq [(.iconst 1, 1, (axI 1)), (.isub, 1, ax0)] (pc' := 11) (L' := [some (aR 12 0 0), some (aI v1), some (aI v2)]) (stk' := [aI (r3 - 1), aI 1, aI v2, aR 12 0 0]) (σ' := σ2) (g := []) (by decide +kernel) rfl rfl ?_
  obtain ⟨σ5, h4, h⟩ := bndV_some h
  refine aw_cV (P' := pX12_put) (idx := 80) (d' := 1) (c := 12) (n := 0) (k := 0) [aI v2, aI 1, aI (r3 - 1)] [] (ov := none) (stk2 := []) okp_X12_put (by decide +kernel) ml_RX12_80 vok_X12_put (by decide) rfl nar_X12_put (by decide) rfl (Nat.le_of_ble_eq_true rfl) (ok_X12_put h4) rfl ?_
  refine aw_seq [(.aload_n 0, 1, ax0), (.iload_n 1, 1, ax0), (.iconst 0, 1, (axI 0)), (.iconst 2, 1, (axI 2))] (pc' := 18) (L' := [some (aR 12 0 0), some (aI v1), some (aI v2)]) (stk' := [aI 2, aI 0, aI v1, aR 12 0 0]) (σ' := σ5) (g := []) (by decide +kernel) rfl rfl ?_
  obtain ⟨σ7, h6, h⟩ := bndV_some h
  refine aw_cV (P' := pX12_put) (idx := 80) (d' := 1) (c := 12) (n := 0) (k := 0) [aI v1, aI 0, aI 2] [] (ov := none) (stk2 := []) okp_X12_put (by decide +kernel) ml_RX12_80 vok_X12_put (by decide) rfl nar_X12_put (by decide) rfl (Nat.le_of_ble_eq_true rfl) (ok_X12_put h6) rfl ?_
  refine aw_seq [(.aload_n 0, 1, ax0), (.iload_n 1, 1, ax0), (.iconst 1, 1, (axI 1)), (.iconst 5, 1, (axI 5))] (pc' := 25) (L' := [some (aR 12 0 0), some (aI v1), some (aI v2)]) (stk' := [aI 5, aI 1, aI v1, aR 12 0 0]) (σ' := σ7) (g := []) (by decide +kernel) rfl rfl ?_
  obtain ⟨σ9, h8, h⟩ := bndV_some h
  refine aw_cV (P' := pX12_put) (idx := 80) (d' := 1) (c := 12) (n := 0) (k := 0) [aI v1, aI 1, aI 5] [] (ov := none) (stk2 := []) okp_X12_put (by decide +kernel) ml_RX12_80 vok_X12_put (by decide) rfl nar_X12_put (by decide) rfl (Nat.le_of_ble_eq_true rfl) (ok_X12_put h8) rfl ?_
  refine aw_seq [(.aload_n 0, 1, ax0), (.iload_n 1, 1, ax0), (.iconst 1, 1, (axI 1))] (pc' := 31) (L' := [some (aR 12 0 0), some (aI v1), some (aI v2)]) (stk' := [aI 1, aI v1, aR 12 0 0]) (σ' := σ9) (g := []) (by decide +kernel) rfl rfl ?_
  obtain ⟨σ11, h10, h⟩ := bndV_some h
  refine aw_cV (P' := pX12_write) (idx := 328) (d' := 1) (c := 12) (n := 0) (k := 0) [aI v1, aI 1] [] (ov := none) (stk2 := []) okp_X12_write (by decide +kernel) ml_RX12_328 vok_X12_write (by decide) rfl nar_X12_write (by decide) rfl (Nat.le_of_ble_eq_true rfl) (ok_X12_write h10) rfl ?_
  cases h
  exact aw_vret rfl (by decide +kernel)
def f_X12_fetch (v1 : Int32) (v2 : Int32) (σ : Sg) : Option (Int32 × Sg) :=
  bnd (f_X12_canFetch v1 v2 σ) fun r3 σ2 =>
  if r3 = 0 then (
    some ((-1), σ2)
  ) else (
    bndV (f_X12_keep σ2) fun σ5 =>
    bndV (f_X12_fetchNow v1 v2 σ5) fun σ7 =>
    bnd (f_X12_get v2 1 σ7) fun r10 σ9 =>
    some (r10, σ9)
  )
set_option maxRecDepth 100000 in
set_option maxHeartbeats 4000000 in
theorem ok_X12_fetch {κ : Kd} {v1 : Int32} {v2 : Int32} {σ : Sg} {q : (Int32 × Sg)} (h : f_X12_fetch v1 v2 σ = some q) : AMet κ pX12_fetch 5 [aR 12 0 0, aI v1, aI v2] σ (some (aI q.1), q.2) := by
  unfold f_X12_fetch at h
  refine amet_of okp_X12_fetch [(false, aR 12 0 0), (false, aI v1), (false, aI v2)] (List.forall_mem_cons.mpr ⟨rfl, List.forall_mem_cons.mpr ⟨rfl, List.forall_mem_cons.mpr ⟨rfl, (fun _ hn => absurd hn List.not_mem_nil)⟩⟩⟩) 0 rfl ?_
  show AW κ pX12_fetch 5 (some (aI q.1), q.2) 0 [some (aR 12 0 0), some (aI v1), some (aI v2)] [] σ
  refine aw_seq [(.aload_n 0, 1, ax0), (.iload_n 1, 1, ax0), (.iload_n 2, 1, ax0)] (pc' := 3) (L' := [some (aR 12 0 0), some (aI v1), some (aI v2)]) (stk' := [aI v2, aI v1, aR 12 0 0]) (σ' := σ) (g := []) (by decide +kernel) rfl rfl ?_
  obtain ⟨r3, σ2, h1, h⟩ := bnd_some h
  refine aw_cV (P' := pX12_canFetch) (idx := 367) (d' := 4) (c := 12) (n := 0) (k := 0) [aI v1, aI v2] [] (ov := (some (aI r3))) (stk2 := [aI r3]) okp_X12_canFetch (by decide +kernel) ml_RX12_367 vok_X12_canFetch (by decide) rfl nar_X12_canFetch (by decide) rfl (Nat.le_of_ble_eq_true rfl) (ok_X12_canFetch h1) rfl ?_
  refine aw_if_ne (off := 5) (tgt := 11) (by decide +kernel) (by decide) (fun c1 => ?_) (fun c1 => ?_)
  · rw [if_neg c1] at h
    refine aw_seq [(.aload_n 0, 1, ax0)] (pc' := 12) (L' := [some (aR 12 0 0), some (aI v1), some (aI v2)]) (stk' := [aR 12 0 0]) (σ' := σ2) (g := []) (by decide +kernel) rfl rfl ?_
    obtain ⟨σ5, h4, h⟩ := bndV_some h
    refine aw_cV (P' := pX12_keep) (idx := 355) (d' := 2) (c := 12) (n := 0) (k := 0) [] [] (ov := none) (stk2 := []) okp_X12_keep (by decide +kernel) ml_RX12_355 vok_X12_keep (by decide) rfl nar_X12_keep (by decide) rfl (Nat.le_of_ble_eq_true rfl) (ok_X12_keep h4) rfl ?_
    refine aw_seq [(.aload_n 0, 1, ax0), (.iload_n 1, 1, ax0), (.iload_n 2, 1, ax0)] (pc' := 18) (L' := [some (aR 12 0 0), some (aI v1), some (aI v2)]) (stk' := [aI v2, aI v1, aR 12 0 0]) (σ' := σ5) (g := []) (by decide +kernel) rfl rfl ?_
    obtain ⟨σ7, h6, h⟩ := bndV_some h
    refine aw_cV (P' := pX12_fetchNow) (idx := 370) (d' := 2) (c := 12) (n := 0) (k := 0) [aI v1, aI v2] [] (ov := none) (stk2 := []) okp_X12_fetchNow (by decide +kernel) ml_RX12_370 vok_X12_fetchNow (by decide) rfl nar_X12_fetchNow (by decide) rfl (Nat.le_of_ble_eq_true rfl) (ok_X12_fetchNow h6) rfl ?_
    refine aw_seq [(.aload_n 0, 1, ax0), (.iload_n 2, 1, ax0), (.iconst 1, 1, (axI 1))] (pc' := 24) (L' := [some (aR 12 0 0), some (aI v1), some (aI v2)]) (stk' := [aI 1, aI v2, aR 12 0 0]) (σ' := σ7) (g := []) (by decide +kernel) rfl rfl ?_
    obtain ⟨r10, σ9, h8, h⟩ := bnd_some h
    refine aw_cV (P' := pX12_get) (idx := 77) (d' := 1) (c := 12) (n := 0) (k := 0) [aI v2, aI 1] [] (ov := (some (aI r10))) (stk2 := [aI r10]) okp_X12_get (by decide +kernel) ml_RX12_77 vok_X12_get (by decide) rfl nar_X12_get (by decide) rfl (Nat.le_of_ble_eq_true rfl) (ok_X12_get h8) rfl ?_
    cases h
    exact aw_iret rfl (by decide +kernel)
  · rw [if_pos c1] at h
    refine aw_seq [(.iconst (-1), 1, (axI (-1)))] (pc' := 10) (L' := [some (aR 12 0 0), some (aI v1), some (aI v2)]) (stk' := [aI (-1)]) (σ' := σ2) (g := []) (by decide +kernel) rfl rfl ?_
    cases h
    exact aw_iret rfl (by decide +kernel)
def f_X12_wardenNow_17    (σ : Sg) : Option (Int32 × Sg) :=
  some ((-1), σ)
set_option maxRecDepth 100000 in
set_option maxHeartbeats 4000000 in
theorem ok_X12_wardenNow_17 {κ : Kd}    : ∀  (σ : Sg) (q : (Int32 × Sg)), f_X12_wardenNow_17  σ = some q → AW κ pX12_wardenNow 6 (some (aI q.1), q.2) 17 [none, none, none] [] σ := by
  intro  σ q h
  unfold f_X12_wardenNow_17 at h
  refine aw_seq [(.iconst (-1), 1, (axI (-1)))] (pc' := 18) (L' := [none, none, none]) (stk' := [aI (-1)]) (σ' := σ) (g := []) (by decide +kernel) rfl rfl ?_
  cases h
  exact aw_iret rfl (by decide +kernel)
def f_X12_wardenNow (v1 : Int32) (σ : Sg) : Option (Int32 × Sg) :=
  bnd (f_X12_isBell σ) fun r3 σ2 =>
  if r3 = 0 then (
    f_X12_wardenNow_17 σ2
  ) else (
    bnd (f_X12_get v1 0 σ2) fun r6 σ5 =>
    if r6 = 2 then (
      bnd (f_X12_allOf 3 σ5) fun r9 σ8 =>
      ltσ (wI σ8 0 23 r9) fun σ10 =>
      bnd (f_X12_fineOf v1 σ10) fun r14 σ13 =>
      bnd (f_X12_get v1 2 σ13) fun r17 σ16 =>
      bnd (f_X12_cut (Int32.toInt64 r14) 0 r17 σ16) fun r20 σ19 =>
      bnd (f_X12_get v1 2 σ19) fun r23 σ22 =>
      bndV (f_X12_put v1 2 (r23 - r20) σ22) fun σ25 =>
      bndV (f_X12_put v1 0 1 σ25) fun σ27 =>
      bndV (f_X12_write v1 5 σ27) fun σ29 =>
      some (r20, σ29)
    ) else (
      f_X12_wardenNow_17 σ5
    )
  )
set_option maxRecDepth 100000 in
set_option maxHeartbeats 4000000 in
theorem ok_X12_wardenNow {κ : Kd} {v1 : Int32} {σ : Sg} {q : (Int32 × Sg)} (h : f_X12_wardenNow v1 σ = some q) : AMet κ pX12_wardenNow 6 [aR 12 0 0, aI v1] σ (some (aI q.1), q.2) := by
  unfold f_X12_wardenNow at h
  refine amet_of okp_X12_wardenNow [(false, aR 12 0 0), (false, aI v1)] (List.forall_mem_cons.mpr ⟨rfl, List.forall_mem_cons.mpr ⟨rfl, (fun _ hn => absurd hn List.not_mem_nil)⟩⟩) 1 rfl ?_
  show AW κ pX12_wardenNow 6 (some (aI q.1), q.2) 0 [some (aR 12 0 0), some (aI v1), none] [] σ
  refine aw_seq [(.aload_n 0, 1, ax0)] (pc' := 1) (L' := [some (aR 12 0 0), some (aI v1), none]) (stk' := [aR 12 0 0]) (σ' := σ) (g := []) (by decide +kernel) rfl rfl ?_
  obtain ⟨r3, σ2, h1, h⟩ := bnd_some h
  refine aw_cV (P' := pX12_isBell) (idx := 303) (d' := 1) (c := 12) (n := 0) (k := 0) [] [] (ov := (some (aI r3))) (stk2 := [aI r3]) okp_X12_isBell (by decide +kernel) ml_RX12_303 vok_X12_isBell (by decide) rfl nar_X12_isBell (by decide) rfl (Nat.le_of_ble_eq_true rfl) (ok_X12_isBell h1) rfl ?_
  refine aw_if_eq (off := 13) (tgt := 17) (by decide +kernel) (by decide) (fun c1 => ?_) (fun c1 => ?_)
  · rw [if_pos c1] at h
    refine aw_forget (L' := [none, none, none]) (lsub_n (lsub_n (lsub_n (lsub_0)))) ?_
    exact ok_X12_wardenNow_17 σ2 _ h
  · rw [if_neg c1] at h
    refine aw_seq [(.aload_n 0, 1, ax0), (.iload_n 1, 1, ax0), (.iconst 0, 1, (axI 0))] (pc' := 10) (L' := [some (aR 12 0 0), some (aI v1), none]) (stk' := [aI 0, aI v1, aR 12 0 0]) (σ' := σ2) (g := []) (by decide +kernel) rfl rfl ?_
    obtain ⟨r6, σ5, h4, h⟩ := bnd_some h
    refine aw_cV (P' := pX12_get) (idx := 77) (d' := 1) (c := 12) (n := 0) (k := 0) [aI v1, aI 0] [] (ov := (some (aI r6))) (stk2 := [aI r6]) okp_X12_get (by decide +kernel) ml_RX12_77 vok_X12_get (by decide) rfl nar_X12_get (by decide) rfl (Nat.le_of_ble_eq_true rfl) (ok_X12_get h4) rfl ?_
    refine aw_seq [(.iconst 2, 1, (axI 2))] (pc' := 14) (L' := [some (aR 12 0 0), some (aI v1), none]) (stk' := [aI 2, aI r6]) (σ' := σ5) (g := []) (by decide +kernel) rfl rfl ?_
    refine aw_icmp_eq (off := 5) (tgt := 19) (by decide +kernel) (by decide) (fun c1 => ?_) (fun c1 => ?_)
    · rw [if_pos c1] at h
      refine aw_seq [(.aload_n 0, 1, ax0), (.aload_n 0, 1, ax0), (.iconst 3, 1, (axI 3))] (pc' := 22) (L' := [some (aR 12 0 0), some (aI v1), none]) (stk' := [aI 3, aR 12 0 0, aR 12 0 0]) (σ' := σ5) (g := []) (by decide +kernel) rfl rfl ?_
      obtain ⟨r9, σ8, h7, h⟩ := bnd_some h
      refine aw_cV (P' := pX12_allOf) (idx := 346) (d' := 2) (c := 12) (n := 0) (k := 0) [aI 3] [aR 12 0 0] (ov := (some (aI r9))) (stk2 := [aI r9, aR 12 0 0]) okp_X12_allOf (by decide +kernel) ml_RX12_346 vok_X12_allOf (by decide) rfl nar_X12_allOf (by decide) rfl (Nat.le_of_ble_eq_true rfl) (ok_X12_allOf h7) rfl ?_
      obtain ⟨σ10, e11, h⟩ := ltσ_some h
      refine aw_seq [(.putfield 297, 3, (axF 12 23 (0, 0, 0, none)))] (pc' := 28) (L' := [some (aR 12 0 0), some (aI v1), none]) (stk' := []) (σ' := σ10) (g := []) (by decide +kernel) (by rw [e11]; rfl) rfl ?_
      refine aw_seq [(.aload_n 0, 1, ax0), (.iload_n 1, 1, ax0)] (pc' := 30) (L' := [some (aR 12 0 0), some (aI v1), none]) (stk' := [aI v1, aR 12 0 0]) (σ' := σ10) (g := []) (by decide +kernel) rfl rfl ?_
      obtain ⟨r14, σ13, h12, h⟩ := bnd_some h
      refine aw_cV (P' := pX12_fineOf) (idx := 373) (d' := 5) (c := 12) (n := 0) (k := 0) [aI v1] [] (ov := (some (aI r14))) (stk2 := [aI r14]) okp_X12_fineOf (by decide +kernel) ml_RX12_373 vok_X12_fineOf (by decide) rfl nar_X12_fineOf (by decide) rfl (Nat.le_of_ble_eq_true rfl) (ok_X12_fineOf h12) rfl ?_
      refine aw_seq [(.i2l, 1, ax0), (.iconst 0, 1, (axI 0)), (.aload_n 0, 1, ax0), (.iload_n 1, 1, ax0), (.iconst 2, 1, (axI 2))] (pc' := 38) (L' := [some (aR 12 0 0), some (aI v1), none]) (stk' := [aI 2, aI v1, aR 12 0 0, aI 0, aL (Int32.toInt64 r14)]) (σ' := σ13) (g := []) (by decide +kernel) rfl rfl ?_
      obtain ⟨r17, σ16, h15, h⟩ := bnd_some h
      refine aw_cV (P' := pX12_get) (idx := 77) (d' := 1) (c := 12) (n := 0) (k := 0) [aI v1, aI 2] [aI 0, aL (Int32.toInt64 r14)] (ov := (some (aI r17))) (stk2 := [aI r17, aI 0, aL (Int32.toInt64 r14)]) okp_X12_get (by decide +kernel) ml_RX12_77 vok_X12_get (by decide) rfl nar_X12_get (by decide) rfl (Nat.le_of_ble_eq_true rfl) (ok_X12_get h15) rfl ?_
      obtain ⟨r20, σ19, h18, h⟩ := bnd_some h
      refine aw_cS (P' := pX12_cut) (idx := 291) (d' := 1) [aL (Int32.toInt64 r14), aI 0, aI r17] [] (ov := (some (aI r20))) (stk2 := [aI r20]) okp_X12_cut (by decide +kernel) ml_RX12_291 tok_X12_cut nar_X12_cut (by decide) rfl (Nat.le_of_ble_eq_true rfl) (ok_X12_cut h18) rfl ?_
      refine aw_seq [(.istore_n 2, 1, ax0), (.aload_n 0, 1, ax0), (.iload_n 1, 1, ax0), (.iconst 2, 1, (axI 2)), (.aload_n 0, 1, ax0), (.iload_n 1, 1, ax0), (.iconst 2, 1, (axI 2))] (pc' := 51) (L' := [some (aR 12 0 0), some (aI v1), some (aI r20)]) (stk' := [aI 2, aI v1, aR 12 0 0, aI 2, aI v1, aR 12 0 0]) (σ' := σ19) (g := []) (by decide +kernel) rfl rfl ?_
      obtain ⟨r23, σ22, h21, h⟩ := bnd_some h
      refine aw_cV (P' := pX12_get) (idx := 77) (d' := 1) (c := 12) (n := 0) (k := 0) [aI v1, aI 2] [aI 2, aI v1, aR 12 0 0] (ov := (some (aI r23))) (stk2 := [aI r23, aI 2, aI v1, aR 12 0 0]) okp_X12_get (by decide +kernel) ml_RX12_77 vok_X12_get (by decide) rfl nar_X12_get (by decide) rfl (Nat.le_of_ble_eq_true rfl) (ok_X12_get h21) rfl ?_
      refine aw_seq [(.iload_n 2, 1, ax0), (.isub, 1, ax0)] (pc' := 56) (L' := [some (aR 12 0 0), some (aI v1), some (aI r20)]) (stk' := [aI (r23 - r20), aI 2, aI v1, aR 12 0 0]) (σ' := σ22) (g := []) (by decide +kernel) rfl rfl ?_
      obtain ⟨σ25, h24, h⟩ := bndV_some h
      refine aw_cV (P' := pX12_put) (idx := 80) (d' := 1) (c := 12) (n := 0) (k := 0) [aI v1, aI 2, aI (r23 - r20)] [] (ov := none) (stk2 := []) okp_X12_put (by decide +kernel) ml_RX12_80 vok_X12_put (by decide) rfl nar_X12_put (by decide) rfl (Nat.le_of_ble_eq_true rfl) (ok_X12_put h24) rfl ?_
      refine aw_seq [(.aload_n 0, 1, ax0), (.iload_n 1, 1, ax0), (.iconst 0, 1, (axI 0)), (.iconst 1, 1, (axI 1))] (pc' := 63) (L' := [some (aR 12 0 0), some (aI v1), some (aI r20)]) (stk' := [aI 1, aI 0, aI v1, aR 12 0 0]) (σ' := σ25) (g := []) (by decide +kernel) rfl rfl ?_
      obtain ⟨σ27, h26, h⟩ := bndV_some h
      refine aw_cV (P' := pX12_put) (idx := 80) (d' := 1) (c := 12) (n := 0) (k := 0) [aI v1, aI 0, aI 1] [] (ov := none) (stk2 := []) okp_X12_put (by decide +kernel) ml_RX12_80 vok_X12_put (by decide) rfl nar_X12_put (by decide) rfl (Nat.le_of_ble_eq_true rfl) (ok_X12_put h26) rfl ?_
      refine aw_seq [(.aload_n 0, 1, ax0), (.iload_n 1, 1, ax0), (.iconst 5, 1, (axI 5))] (pc' := 69) (L' := [some (aR 12 0 0), some (aI v1), some (aI r20)]) (stk' := [aI 5, aI v1, aR 12 0 0]) (σ' := σ27) (g := []) (by decide +kernel) rfl rfl ?_
      obtain ⟨σ29, h28, h⟩ := bndV_some h
      refine aw_cV (P' := pX12_write) (idx := 328) (d' := 1) (c := 12) (n := 0) (k := 0) [aI v1, aI 5] [] (ov := none) (stk2 := []) okp_X12_write (by decide +kernel) ml_RX12_328 vok_X12_write (by decide) rfl nar_X12_write (by decide) rfl (Nat.le_of_ble_eq_true rfl) (ok_X12_write h28) rfl ?_
      refine aw_seq [(.iload_n 2, 1, ax0)] (pc' := 73) (L' := [some (aR 12 0 0), some (aI v1), some (aI r20)]) (stk' := [aI r20]) (σ' := σ29) (g := []) (by decide +kernel) rfl rfl ?_
      cases h
      exact aw_iret rfl (by decide +kernel)
    · rw [if_neg c1] at h
      refine aw_forget (L' := [none, none, none]) (lsub_n (lsub_n (lsub_n (lsub_0)))) ?_
      exact ok_X12_wardenNow_17 σ5 _ h
def f_X12_warden (v1 : Int32) (σ : Sg) : Option (Int32 × Sg) :=
  bnd (f_X12_isHouse v1 σ) fun r3 σ2 =>
  if r3 = 0 then (
    some ((-2), σ2)
  ) else (
    bndV (f_X12_keep σ2) fun σ5 =>
    bnd (f_X12_wardenNow v1 σ5) fun r8 σ7 =>
    some (r8, σ7)
  )
set_option maxRecDepth 100000 in
set_option maxHeartbeats 4000000 in
theorem ok_X12_warden {κ : Kd} {v1 : Int32} {σ : Sg} {q : (Int32 × Sg)} (h : f_X12_warden v1 σ = some q) : AMet κ pX12_warden 7 [aR 12 0 0, aI v1] σ (some (aI q.1), q.2) := by
  unfold f_X12_warden at h
  refine amet_of okp_X12_warden [(false, aR 12 0 0), (false, aI v1)] (List.forall_mem_cons.mpr ⟨rfl, List.forall_mem_cons.mpr ⟨rfl, (fun _ hn => absurd hn List.not_mem_nil)⟩⟩) 0 rfl ?_
  show AW κ pX12_warden 7 (some (aI q.1), q.2) 0 [some (aR 12 0 0), some (aI v1)] [] σ
  refine aw_seq [(.aload_n 0, 1, ax0), (.iload_n 1, 1, ax0)] (pc' := 2) (L' := [some (aR 12 0 0), some (aI v1)]) (stk' := [aI v1, aR 12 0 0]) (σ' := σ) (g := []) (by decide +kernel) rfl rfl ?_
  obtain ⟨r3, σ2, h1, h⟩ := bnd_some h
  refine aw_cV (P' := pX12_isHouse) (idx := 88) (d' := 2) (c := 12) (n := 0) (k := 0) [aI v1] [] (ov := (some (aI r3))) (stk2 := [aI r3]) okp_X12_isHouse (by decide +kernel) ml_RX12_88 vok_X12_isHouse (by decide) rfl nar_X12_isHouse (by decide) rfl (Nat.le_of_ble_eq_true rfl) (ok_X12_isHouse h1) rfl ?_
  refine aw_if_ne (off := 6) (tgt := 11) (by decide +kernel) (by decide) (fun c1 => ?_) (fun c1 => ?_)
  · rw [if_neg c1] at h
    refine aw_seq [(.aload_n 0, 1, ax0)] (pc' := 12) (L' := [some (aR 12 0 0), some (aI v1)]) (stk' := [aR 12 0 0]) (σ' := σ2) (g := []) (by decide +kernel) rfl rfl ?_
    obtain ⟨σ5, h4, h⟩ := bndV_some h
    refine aw_cV (P' := pX12_keep) (idx := 355) (d' := 2) (c := 12) (n := 0) (k := 0) [] [] (ov := none) (stk2 := []) okp_X12_keep (by decide +kernel) ml_RX12_355 vok_X12_keep (by decide) rfl nar_X12_keep (by decide) rfl (Nat.le_of_ble_eq_true rfl) (ok_X12_keep h4) rfl ?_
    refine aw_seq [(.aload_n 0, 1, ax0), (.iload_n 1, 1, ax0)] (pc' := 17) (L' := [some (aR 12 0 0), some (aI v1)]) (stk' := [aI v1, aR 12 0 0]) (σ' := σ5) (g := []) (by decide +kernel) rfl rfl ?_
    obtain ⟨r8, σ7, h6, h⟩ := bnd_some h
    refine aw_cV (P' := pX12_wardenNow) (idx := 376) (d' := 6) (c := 12) (n := 0) (k := 0) [aI v1] [] (ov := (some (aI r8))) (stk2 := [aI r8]) okp_X12_wardenNow (by decide +kernel) ml_RX12_376 vok_X12_wardenNow (by decide) rfl nar_X12_wardenNow (by decide) rfl (Nat.le_of_ble_eq_true rfl) (ok_X12_wardenNow h6) rfl ?_
    cases h
    exact aw_iret rfl (by decide +kernel)
  · rw [if_pos c1] at h
    refine aw_seq [(.bipush (-2), 2, (axI (-2)))] (pc' := 10) (L' := [some (aR 12 0 0), some (aI v1)]) (stk' := [aI (-2)]) (σ' := σ2) (g := []) (by decide +kernel) rfl rfl ?_
    cases h
    exact aw_iret rfl (by decide +kernel)
def f_X12_arePassed_7   : Nat → Int32 → Int32 → Sg → Option (Int32 × Sg)
  | 0, _, _, _ => none
  | fu + 1, v1, v2, σ =>
    if v1 ≤ v2 then (
      some (1, σ)
    ) else (
      grd (inb 6 1986 && true) <|
      if (σ.1 1 (ix 6)) = 9999 then (
        some (0, σ)
      ) else (
        bndV (f_X12_keep σ) fun σ2 =>
        bndV (f_X12_pass σ2) fun σ4 =>
        (f_X12_arePassed_7 fu) v1 (v2 + 1) σ4
      )
    )
set_option maxRecDepth 100000 in
set_option maxHeartbeats 4000000 in
theorem ok_X12_arePassed_7 {κ : Kd}    : ∀ (fu : Nat) (v1 : Int32) (v2 : Int32) (σ : Sg) (q : (Int32 × Sg)), f_X12_arePassed_7 fu v1 v2 σ = some q → AW κ pX12_arePassed 9 (some (aI q.1), q.2) 7 [some (aR 12 0 0), some (aI v1), some (aI v2)] [] σ := by
  intro fu
  induction fu with
  | zero =>
    intro v1 v2 σ q h
    unfold f_X12_arePassed_7 at h
    cases h
  | succ fu ih =>
    intro v1 v2 σ q h
    unfold f_X12_arePassed_7 at h
    refine aw_seq [(.iload_n 2, 1, ax0), (.iload_n 1, 1, ax0)] (pc' := 9) (L' := [some (aR 12 0 0), some (aI v1), some (aI v2)]) (stk' := [aI v1, aI v2]) (σ' := σ) (g := []) (by decide +kernel) rfl rfl ?_
    refine aw_icmp_ge (off := 32) (tgt := 41) (by decide +kernel) (by decide) (fun c1 => ?_) (fun c1 => ?_)
    · rw [if_pos c1] at h
      refine aw_seq [(.iconst 1, 1, (axI 1))] (pc' := 42) (L' := [some (aR 12 0 0), some (aI v1), some (aI v2)]) (stk' := [aI 1]) (σ' := σ) (g := []) (by decide +kernel) rfl rfl ?_
      cases h
      exact aw_zret rfl bz_1 (by decide +kernel)
    · rw [if_neg c1] at h
      obtain ⟨hg, h⟩ := grd_some h
      refine aw_seq [(.aload_n 0, 1, ax0), (.getfield 7, 3, (axF 12 0 (2, 1, 13, some 1986))), (.bipush 6, 2, (axI 6)), (.iaload, 1, ax0), (.sipush 9999, 3, (axI 9999))] (pc' := 22) (L' := [some (aR 12 0 0), some (aI v1), some (aI v2)]) (stk' := [aI 9999, aI (σ.1 1 (ix 6))]) (σ' := σ) (g := [inb 6 1986]) (by decide +kernel) rfl hg ?_
      refine aw_icmp_ne (off := 5) (tgt := 27) (by decide +kernel) (by decide) (fun c1 => ?_) (fun c1 => ?_)
      · rw [if_neg c1] at h
        refine aw_seq [(.aload_n 0, 1, ax0)] (pc' := 28) (L' := [some (aR 12 0 0), some (aI v1), some (aI v2)]) (stk' := [aR 12 0 0]) (σ' := σ) (g := []) (by decide +kernel) rfl rfl ?_
        obtain ⟨σ2, h1, h⟩ := bndV_some h
        refine aw_cV (P' := pX12_keep) (idx := 355) (d' := 2) (c := 12) (n := 0) (k := 0) [] [] (ov := none) (stk2 := []) okp_X12_keep (by decide +kernel) ml_RX12_355 vok_X12_keep (by decide) rfl nar_X12_keep (by decide) rfl (Nat.le_of_ble_eq_true rfl) (ok_X12_keep h1) rfl ?_
        refine aw_seq [(.aload_n 0, 1, ax0)] (pc' := 32) (L' := [some (aR 12 0 0), some (aI v1), some (aI v2)]) (stk' := [aR 12 0 0]) (σ' := σ2) (g := []) (by decide +kernel) rfl rfl ?_
        obtain ⟨σ4, h3, h⟩ := bndV_some h
        refine aw_cV (P' := pX12_pass) (idx := 379) (d' := 8) (c := 12) (n := 0) (k := 0) [] [] (ov := none) (stk2 := []) okp_X12_pass (by decide +kernel) ml_RX12_379 vok_X12_pass (by decide) rfl nar_X12_pass (by decide) rfl (Nat.le_of_ble_eq_true rfl) (ok_X12_pass h3) rfl ?_
        refine aw_seq [(.iinc 2 1, 3, (axI 1))] (pc' := 38) (L' := [some (aR 12 0 0), some (aI v1), some (aI (v2 + 1))]) (stk' := []) (σ' := σ4) (g := []) (by decide +kernel) rfl rfl ?_
        refine aw_goto (off := (-31)) (tgt := 7) (by decide +kernel) (by decide) ?_
        refine aw_forget (L' := [some (aR 12 0 0), some (aI v1), some (aI (v2 + 1))]) (lsub_s (lsub_s (lsub_s (lsub_0)))) ?_
        exact ih v1 (v2 + 1) σ4 _ h
      · rw [if_pos c1] at h
        refine aw_seq [(.iconst 0, 1, (axI 0))] (pc' := 26) (L' := [some (aR 12 0 0), some (aI v1), some (aI v2)]) (stk' := [aI 0]) (σ' := σ) (g := []) (by decide +kernel) rfl rfl ?_
        cases h
        exact aw_zret rfl bz_0 (by decide +kernel)
def f_X12_arePassed (v1 : Int32) (σ : Sg) : Option (Int32 × Sg) :=
  ltσ (wI σ 0 25 0) fun σ5 =>
  f_X12_arePassed_7 FU v1 0 σ5
set_option maxRecDepth 100000 in
set_option maxHeartbeats 4000000 in
theorem ok_X12_arePassed {κ : Kd} {v1 : Int32} {σ : Sg} {q : (Int32 × Sg)} (h : f_X12_arePassed v1 σ = some q) : AMet κ pX12_arePassed 9 [aR 12 0 0, aI v1] σ (some (aI q.1), q.2) := by
  unfold f_X12_arePassed at h
  refine amet_of okp_X12_arePassed [(false, aR 12 0 0), (false, aI v1)] (List.forall_mem_cons.mpr ⟨rfl, List.forall_mem_cons.mpr ⟨rfl, (fun _ hn => absurd hn List.not_mem_nil)⟩⟩) 1 rfl ?_
  show AW κ pX12_arePassed 9 (some (aI q.1), q.2) 0 [some (aR 12 0 0), some (aI v1), none] [] σ
  obtain ⟨σ5, e6, h⟩ := ltσ_some h
  refine aw_seq [(.aload_n 0, 1, ax0), (.iconst 0, 1, (axI 0)), (.putfield 343, 3, (axF 12 25 (0, 0, 0, none)))] (pc' := 5) (L' := [some (aR 12 0 0), some (aI v1), none]) (stk' := []) (σ' := σ5) (g := []) (by decide +kernel) (by rw [e6]; rfl) rfl ?_
  refine aw_seq [(.iconst 0, 1, (axI 0)), (.istore_n 2, 1, ax0)] (pc' := 7) (L' := [some (aR 12 0 0), some (aI v1), some (aI 0)]) (stk' := []) (σ' := σ5) (g := []) (by decide +kernel) rfl rfl ?_
  refine aw_forget (L' := [some (aR 12 0 0), some (aI v1), some (aI 0)]) (lsub_s (lsub_s (lsub_s (lsub_0)))) ?_
  exact ok_X12_arePassed_7 FU v1 0 σ5 _ h
def f_X12_hour_41   (s0 : Int32) (σ : Sg) : Option (Int32 × Sg) :=
  some (s0, σ)
set_option maxRecDepth 100000 in
set_option maxHeartbeats 4000000 in
theorem ok_X12_hour_41 {κ : Kd}    : ∀ (s0 : Int32) (σ : Sg) (q : (Int32 × Sg)), f_X12_hour_41 s0 σ = some q → AW κ pX12_hour 10 (some (aI q.1), q.2) 41 [none, none] [aI s0] σ := by
  intro s0 σ q h
  unfold f_X12_hour_41 at h
  cases h
  exact aw_iret rfl (by decide +kernel)
def f_X12_hour_40    (σ : Sg) : Option (Int32 × Sg) :=
  f_X12_hour_41 (-1) σ
set_option maxRecDepth 100000 in
set_option maxHeartbeats 4000000 in
theorem ok_X12_hour_40 {κ : Kd}    : ∀  (σ : Sg) (q : (Int32 × Sg)), f_X12_hour_40  σ = some q → AW κ pX12_hour 10 (some (aI q.1), q.2) 40 [none, none] [] σ := by
  intro  σ q h
  unfold f_X12_hour_40 at h
  refine aw_seq [(.iconst (-1), 1, (axI (-1)))] (pc' := 41) (L' := [none, none]) (stk' := [aI (-1)]) (σ' := σ) (g := []) (by decide +kernel) rfl rfl ?_
  refine aw_forget (L' := [none, none]) (lsub_n (lsub_n (lsub_0))) ?_
  exact ok_X12_hour_41 (-1) σ _ h
def f_X12_hour (v1 : Int32) (σ : Sg) : Option (Int32 × Sg) :=
  bnd (f_X12_isIn v1 1 60 σ) fun r3 σ2 =>
  if r3 = 0 then (
    f_X12_hour_40 σ2
  ) else (
    grd (inb 6 1986 && true) <|
    if 9999 < ((σ2.1 1 (ix 6)) + v1) then (
      f_X12_hour_40 σ2
    ) else (
      bnd (f_X12_arePassed v1 σ2) fun r6 σ5 =>
      if r6 = 0 then (
        f_X12_hour_40 σ5
      ) else (
        f_X12_hour_41 (σ5.1 0 25) σ5
      )
    )
  )
set_option maxRecDepth 100000 in
set_option maxHeartbeats 4000000 in
theorem ok_X12_hour {κ : Kd} {v1 : Int32} {σ : Sg} {q : (Int32 × Sg)} (h : f_X12_hour v1 σ = some q) : AMet κ pX12_hour 10 [aR 12 0 0, aI v1] σ (some (aI q.1), q.2) := by
  unfold f_X12_hour at h
  refine amet_of okp_X12_hour [(false, aR 12 0 0), (false, aI v1)] (List.forall_mem_cons.mpr ⟨rfl, List.forall_mem_cons.mpr ⟨rfl, (fun _ hn => absurd hn List.not_mem_nil)⟩⟩) 0 rfl ?_
  show AW κ pX12_hour 10 (some (aI q.1), q.2) 0 [some (aR 12 0 0), some (aI v1)] [] σ
  refine aw_seq [(.iload_n 1, 1, ax0), (.iconst 1, 1, (axI 1)), (.bipush 60, 2, (axI 60))] (pc' := 4) (L' := [some (aR 12 0 0), some (aI v1)]) (stk' := [aI 60, aI 1, aI v1]) (σ' := σ) (g := []) (by decide +kernel) rfl rfl ?_
  obtain ⟨r3, σ2, h1, h⟩ := bnd_some h
  refine aw_cS (P' := pX12_isIn) (idx := 69) (d' := 1) [aI v1, aI 1, aI 60] [] (ov := (some (aI r3))) (stk2 := [aI r3]) okp_X12_isIn (by decide +kernel) ml_RX12_69 tok_X12_isIn nar_X12_isIn (by decide) rfl (Nat.le_of_ble_eq_true rfl) (ok_X12_isIn h1) rfl ?_
  refine aw_if_eq (off := 33) (tgt := 40) (by decide +kernel) (by decide) (fun c1 => ?_) (fun c1 => ?_)
  · rw [if_pos c1] at h
    refine aw_forget (L' := [none, none]) (lsub_n (lsub_n (lsub_0))) ?_
    exact ok_X12_hour_40 σ2 _ h
  · rw [if_neg c1] at h
    obtain ⟨hg, h⟩ := grd_some h
    refine aw_seq [(.aload_n 0, 1, ax0), (.getfield 7, 3, (axF 12 0 (2, 1, 13, some 1986))), (.bipush 6, 2, (axI 6)), (.iaload, 1, ax0), (.iload_n 1, 1, ax0), (.iadd, 1, ax0), (.sipush 9999, 3, (axI 9999))] (pc' := 22) (L' := [some (aR 12 0 0), some (aI v1)]) (stk' := [aI 9999, aI ((σ2.1 1 (ix 6)) + v1)]) (σ' := σ2) (g := [inb 6 1986]) (by decide +kernel) rfl hg ?_
    refine aw_icmp_gt (off := 18) (tgt := 40) (by decide +kernel) (by decide) (fun c1 => ?_) (fun c1 => ?_)
    · rw [if_pos c1] at h
      refine aw_forget (L' := [none, none]) (lsub_n (lsub_n (lsub_0))) ?_
      exact ok_X12_hour_40 σ2 _ h
    · rw [if_neg c1] at h
      refine aw_seq [(.aload_n 0, 1, ax0), (.iload_n 1, 1, ax0)] (pc' := 27) (L' := [some (aR 12 0 0), some (aI v1)]) (stk' := [aI v1, aR 12 0 0]) (σ' := σ2) (g := []) (by decide +kernel) rfl rfl ?_
      obtain ⟨r6, σ5, h4, h⟩ := bnd_some h
      refine aw_cV (P' := pX12_arePassed) (idx := 382) (d' := 9) (c := 12) (n := 0) (k := 0) [aI v1] [] (ov := (some (aI r6))) (stk2 := [aI r6]) okp_X12_arePassed (by decide +kernel) ml_RX12_382 vok_X12_arePassed (by decide) rfl nar_X12_arePassed (by decide) rfl (Nat.le_of_ble_eq_true rfl) (ok_X12_arePassed h4) rfl ?_
      refine aw_if_eq (off := 10) (tgt := 40) (by decide +kernel) (by decide) (fun c1 => ?_) (fun c1 => ?_)
      · rw [if_pos c1] at h
        refine aw_forget (L' := [none, none]) (lsub_n (lsub_n (lsub_0))) ?_
        exact ok_X12_hour_40 σ5 _ h
      · rw [if_neg c1] at h
        refine aw_seq [(.aload_n 0, 1, ax0), (.getfield 343, 3, (axF 12 25 (0, 0, 0, none)))] (pc' := 37) (L' := [some (aR 12 0 0), some (aI v1)]) (stk' := [aI (σ5.1 0 25)]) (σ' := σ5) (g := []) (by decide +kernel) rfl rfl ?_
        refine aw_goto (off := 4) (tgt := 41) (by decide +kernel) (by decide) ?_
        refine aw_forget (L' := [none, none]) (lsub_n (lsub_n (lsub_0))) ?_
        exact ok_X12_hour_41 (σ5.1 0 25) σ5 _ h
def f_X12_isPlayed_90   (s0 : Int32) (σ : Sg) : Option (Int32 × Sg) :=
  grd (bz s0) <| some (s0, σ)
set_option maxRecDepth 100000 in
set_option maxHeartbeats 4000000 in
theorem ok_X12_isPlayed_90 {κ : Kd}    : ∀ (s0 : Int32) (σ : Sg) (q : (Int32 × Sg)), f_X12_isPlayed_90 s0 σ = some q → AW κ pX12_isPlayed 10 (some (aI q.1), q.2) 90 [none, none, none, none] [aI s0] σ := by
  intro s0 σ q h
  unfold f_X12_isPlayed_90 at h
  obtain ⟨hg, h⟩ := grd_some h
  cases h
  exact aw_zret rfl hg (by decide +kernel)
def f_X12_isPlayed_138   (s0 : Int32) (σ : Sg) : Option (Int32 × Sg) :=
  grd (bz s0) <| some (s0, σ)
set_option maxRecDepth 100000 in
set_option maxHeartbeats 4000000 in
theorem ok_X12_isPlayed_138 {κ : Kd}    : ∀ (s0 : Int32) (σ : Sg) (q : (Int32 × Sg)), f_X12_isPlayed_138 s0 σ = some q → AW κ pX12_isPlayed 10 (some (aI q.1), q.2) 138 [none, none, none, none] [aI s0] σ := by
  intro s0 σ q h
  unfold f_X12_isPlayed_138 at h
  obtain ⟨hg, h⟩ := grd_some h
  cases h
  exact aw_zret rfl hg (by decide +kernel)
def f_X12_isPlayed_160   (s0 : Int32) (σ : Sg) : Option (Int32 × Sg) :=
  grd (bz s0) <| some (s0, σ)
set_option maxRecDepth 100000 in
set_option maxHeartbeats 4000000 in
theorem ok_X12_isPlayed_160 {κ : Kd}    : ∀ (s0 : Int32) (σ : Sg) (q : (Int32 × Sg)), f_X12_isPlayed_160 s0 σ = some q → AW κ pX12_isPlayed 10 (some (aI q.1), q.2) 160 [none, none, none, none] [aI s0] σ := by
  intro s0 σ q h
  unfold f_X12_isPlayed_160 at h
  obtain ⟨hg, h⟩ := grd_some h
  cases h
  exact aw_zret rfl hg (by decide +kernel)
def f_X12_isPlayed (v1 : Int32) (σ : Sg) : Option (Int32 × Sg) :=
  grd (inb (v1 + 1) 2820 && (inb (v1 + 2) 2820 && (inb v1 2820 && true))) <|
  if (σ.1 3 (ix v1)) = 3 then (
    bnd (f_X12_house (σ.1 3 (ix (v1 + 1))) (σ.1 3 (ix (v1 + 2))) σ) fun r3 σ2 =>
    if r3 < 0 then (
      f_X12_isPlayed_90 0 σ2
    ) else (
      f_X12_isPlayed_90 1 σ2
    )
  ) else (
  if (σ.1 3 (ix v1)) = 4 then (
    grd (inb (v1 + 3) 2820 && true) <|
    bnd (f_X12_street (σ.1 3 (ix (v1 + 1))) (σ.1 3 (ix (v1 + 2))) (σ.1 3 (ix (v1 + 3))) σ) fun r6 σ5 =>
    grd (bz r6) <| some (r6, σ5)
  ) else (
  if (σ.1 3 (ix v1)) = 5 then (
    bnd (f_X12_light (σ.1 3 (ix (v1 + 1))) σ) fun r9 σ8 =>
    grd (bz r9) <| some (r9, σ8)
  ) else (
  if (σ.1 3 (ix v1)) = 6 then (
    bnd (f_X12_cover (σ.1 3 (ix (v1 + 1))) σ) fun r12 σ11 =>
    grd (bz r12) <| some (r12, σ11)
  ) else (
  if (σ.1 3 (ix v1)) = 7 then (
    bnd (f_X12_open (σ.1 3 (ix (v1 + 1))) σ) fun r15 σ14 =>
    grd (bz r15) <| some (r15, σ14)
  ) else (
  if (σ.1 3 (ix v1)) = 8 then (
    bnd (f_X12_fetch (σ.1 3 (ix (v1 + 1))) (σ.1 3 (ix (v1 + 2))) σ) fun r18 σ17 =>
    if r18 < 0 then (
      f_X12_isPlayed_138 0 σ17
    ) else (
      f_X12_isPlayed_138 1 σ17
    )
  ) else (
  if (σ.1 3 (ix v1)) = 9 then (
    bnd (f_X12_quench (σ.1 3 (ix (v1 + 1))) σ) fun r21 σ20 =>
    grd (bz r21) <| some (r21, σ20)
  ) else (
  if (σ.1 3 (ix v1)) = 10 then (
    bnd (f_X12_warden (σ.1 3 (ix (v1 + 1))) σ) fun r24 σ23 =>
    if r24 = (-2) then (
      f_X12_isPlayed_160 0 σ23
    ) else (
      f_X12_isPlayed_160 1 σ23
    )
  ) else (
  if (σ.1 3 (ix v1)) = 11 then (
    bnd (f_X12_arePassed (σ.1 3 (ix (v1 + 1))) σ) fun r27 σ26 =>
    grd (bz r27) <| some (r27, σ26)
  ) else (
    some (1, σ)
  )))))))))
set_option maxRecDepth 100000 in
set_option maxHeartbeats 4000000 in
theorem ok_X12_isPlayed {κ : Kd} {v1 : Int32} {σ : Sg} {q : (Int32 × Sg)} (h : f_X12_isPlayed v1 σ = some q) : AMet κ pX12_isPlayed 10 [aR 12 0 0, aI v1] σ (some (aI q.1), q.2) := by
  unfold f_X12_isPlayed at h
  refine amet_of okp_X12_isPlayed [(false, aR 12 0 0), (false, aI v1)] (List.forall_mem_cons.mpr ⟨rfl, List.forall_mem_cons.mpr ⟨rfl, (fun _ hn => absurd hn List.not_mem_nil)⟩⟩) 2 rfl ?_
  show AW κ pX12_isPlayed 10 (some (aI q.1), q.2) 0 [some (aR 12 0 0), some (aI v1), none, none] [] σ
  obtain ⟨hg, h⟩ := grd_some h
  refine aw_seq [(.aload_n 0, 1, ax0), (.getfield 16, 3, (axF 12 2 (2, 3, 13, some 2820))), (.iload_n 1, 1, ax0), (.iconst 1, 1, (axI 1)), (.iadd, 1, ax0), (.iaload, 1, ax0), (.istore_n 2, 1, ax0), (.aload_n 0, 1, ax0), (.getfield 16, 3, (axF 12 2 (2, 3, 13, some 2820))), (.iload_n 1, 1, ax0), (.iconst 2, 1, (axI 2)), (.iadd, 1, ax0), (.iaload, 1, ax0), (.istore_n 3, 1, ax0), (.aload_n 0, 1, ax0), (.getfield 16, 3, (axF 12 2 (2, 3, 13, some 2820))), (.iload_n 1, 1, ax0), (.iaload, 1, ax0)] (pc' := 24) (L' := [some (aR 12 0 0), some (aI v1), some (aI (σ.1 3 (ix (v1 + 1)))), some (aI (σ.1 3 (ix (v1 + 2))))]) (stk' := [aI (σ.1 3 (ix v1))]) (σ' := σ) (g := [inb (v1 + 1) 2820, inb (v1 + 2) 2820, inb v1 2820]) (by decide +kernel) rfl hg ?_
  refine aw_table (dflt := 143) (lo := 3) (hi := 11) (offs := #[52, 67, 82, 88, 94, 100, 115, 121, 137]) (len := 52) (dt := 167) (by decide +kernel) [(3, 76), (4, 91), (5, 106), (6, 112), (7, 118), (8, 124), (9, 139), (10, 145), (11, 161)] (by decide +kernel) ?_
  refine awsw_cons (fun c1 => ?_) (fun c1 => ?_)
  · rw [if_pos c1] at h
    refine aw_seq [(.aload_n 0, 1, ax0), (.iload_n 2, 1, ax0), (.iload_n 3, 1, ax0)] (pc' := 79) (L' := [some (aR 12 0 0), some (aI v1), some (aI (σ.1 3 (ix (v1 + 1)))), some (aI (σ.1 3 (ix (v1 + 2))))]) (stk' := [aI (σ.1 3 (ix (v1 + 2))), aI (σ.1 3 (ix (v1 + 1))), aR 12 0 0]) (σ' := σ) (g := []) (by decide +kernel) rfl rfl ?_
    obtain ⟨r3, σ2, h1, h⟩ := bnd_some h
    refine aw_cV (P' := pX12_house) (idx := 385) (d' := 3) (c := 12) (n := 0) (k := 0) [aI (σ.1 3 (ix (v1 + 1))), aI (σ.1 3 (ix (v1 + 2)))] [] (ov := (some (aI r3))) (stk2 := [aI r3]) okp_X12_house (by decide +kernel) ml_RX12_385 vok_X12_house (by decide) rfl nar_X12_house (by decide) rfl (Nat.le_of_ble_eq_true rfl) (ok_X12_house h1) rfl ?_
    refine aw_if_lt (off := 7) (tgt := 89) (by decide +kernel) (by decide) (fun c1 => ?_) (fun c1 => ?_)
    · rw [if_pos c1] at h
      refine aw_seq [(.iconst 0, 1, (axI 0))] (pc' := 90) (L' := [some (aR 12 0 0), some (aI v1), some (aI (σ.1 3 (ix (v1 + 1)))), some (aI (σ.1 3 (ix (v1 + 2))))]) (stk' := [aI 0]) (σ' := σ2) (g := []) (by decide +kernel) rfl rfl ?_
      refine aw_forget (L' := [none, none, none, none]) (lsub_n (lsub_n (lsub_n (lsub_n (lsub_0))))) ?_
      exact ok_X12_isPlayed_90 0 σ2 _ h
    · rw [if_neg c1] at h
      refine aw_seq [(.iconst 1, 1, (axI 1))] (pc' := 86) (L' := [some (aR 12 0 0), some (aI v1), some (aI (σ.1 3 (ix (v1 + 1)))), some (aI (σ.1 3 (ix (v1 + 2))))]) (stk' := [aI 1]) (σ' := σ2) (g := []) (by decide +kernel) rfl rfl ?_
      refine aw_goto (off := 4) (tgt := 90) (by decide +kernel) (by decide) ?_
      refine aw_forget (L' := [none, none, none, none]) (lsub_n (lsub_n (lsub_n (lsub_n (lsub_0))))) ?_
      exact ok_X12_isPlayed_90 1 σ2 _ h
  rw [if_neg c1] at h
  refine awsw_cons (fun c1 => ?_) (fun c1 => ?_)
  · rw [if_pos c1] at h
    obtain ⟨hg, h⟩ := grd_some h
    refine aw_seq [(.aload_n 0, 1, ax0), (.iload_n 2, 1, ax0), (.iload_n 3, 1, ax0), (.aload_n 0, 1, ax0), (.getfield 16, 3, (axF 12 2 (2, 3, 13, some 2820))), (.iload_n 1, 1, ax0), (.iconst 3, 1, (axI 3)), (.iadd, 1, ax0), (.iaload, 1, ax0)] (pc' := 102) (L' := [some (aR 12 0 0), some (aI v1), some (aI (σ.1 3 (ix (v1 + 1)))), some (aI (σ.1 3 (ix (v1 + 2))))]) (stk' := [aI (σ.1 3 (ix (v1 + 3))), aI (σ.1 3 (ix (v1 + 2))), aI (σ.1 3 (ix (v1 + 1))), aR 12 0 0]) (σ' := σ) (g := [inb (v1 + 3) 2820]) (by decide +kernel) rfl hg ?_
    obtain ⟨r6, σ5, h4, h⟩ := bnd_some h
    refine aw_cV (P' := pX12_street) (idx := 388) (d' := 3) (c := 12) (n := 0) (k := 0) [aI (σ.1 3 (ix (v1 + 1))), aI (σ.1 3 (ix (v1 + 2))), aI (σ.1 3 (ix (v1 + 3)))] [] (ov := (some (aI r6))) (stk2 := [aI r6]) okp_X12_street (by decide +kernel) ml_RX12_388 vok_X12_street (by decide) rfl nar_X12_street (by decide) rfl (Nat.le_of_ble_eq_true rfl) (ok_X12_street h4) rfl ?_
    obtain ⟨hg, h⟩ := grd_some h
    cases h
    exact aw_zret rfl hg (by decide +kernel)
  rw [if_neg c1] at h
  refine awsw_cons (fun c1 => ?_) (fun c1 => ?_)
  · rw [if_pos c1] at h
    refine aw_seq [(.aload_n 0, 1, ax0), (.iload_n 2, 1, ax0)] (pc' := 108) (L' := [some (aR 12 0 0), some (aI v1), some (aI (σ.1 3 (ix (v1 + 1)))), some (aI (σ.1 3 (ix (v1 + 2))))]) (stk' := [aI (σ.1 3 (ix (v1 + 1))), aR 12 0 0]) (σ' := σ) (g := []) (by decide +kernel) rfl rfl ?_
    obtain ⟨r9, σ8, h7, h⟩ := bnd_some h
    refine aw_cV (P' := pX12_light) (idx := 391) (d' := 4) (c := 12) (n := 0) (k := 0) [aI (σ.1 3 (ix (v1 + 1)))] [] (ov := (some (aI r9))) (stk2 := [aI r9]) okp_X12_light (by decide +kernel) ml_RX12_391 vok_X12_light (by decide) rfl nar_X12_light (by decide) rfl (Nat.le_of_ble_eq_true rfl) (ok_X12_light h7) rfl ?_
    obtain ⟨hg, h⟩ := grd_some h
    cases h
    exact aw_zret rfl hg (by decide +kernel)
  rw [if_neg c1] at h
  refine awsw_cons (fun c1 => ?_) (fun c1 => ?_)
  · rw [if_pos c1] at h
    refine aw_seq [(.aload_n 0, 1, ax0), (.iload_n 2, 1, ax0)] (pc' := 114) (L' := [some (aR 12 0 0), some (aI v1), some (aI (σ.1 3 (ix (v1 + 1)))), some (aI (σ.1 3 (ix (v1 + 2))))]) (stk' := [aI (σ.1 3 (ix (v1 + 1))), aR 12 0 0]) (σ' := σ) (g := []) (by decide +kernel) rfl rfl ?_
    obtain ⟨r12, σ11, h10, h⟩ := bnd_some h
    refine aw_cV (P' := pX12_cover) (idx := 394) (d' := 5) (c := 12) (n := 0) (k := 0) [aI (σ.1 3 (ix (v1 + 1)))] [] (ov := (some (aI r12))) (stk2 := [aI r12]) okp_X12_cover (by decide +kernel) ml_RX12_394 vok_X12_cover (by decide) rfl nar_X12_cover (by decide) rfl (Nat.le_of_ble_eq_true rfl) (ok_X12_cover h10) rfl ?_
    obtain ⟨hg, h⟩ := grd_some h
    cases h
    exact aw_zret rfl hg (by decide +kernel)
  rw [if_neg c1] at h
  refine awsw_cons (fun c1 => ?_) (fun c1 => ?_)
  · rw [if_pos c1] at h
    refine aw_seq [(.aload_n 0, 1, ax0), (.iload_n 2, 1, ax0)] (pc' := 120) (L' := [some (aR 12 0 0), some (aI v1), some (aI (σ.1 3 (ix (v1 + 1)))), some (aI (σ.1 3 (ix (v1 + 2))))]) (stk' := [aI (σ.1 3 (ix (v1 + 1))), aR 12 0 0]) (σ' := σ) (g := []) (by decide +kernel) rfl rfl ?_
    obtain ⟨r15, σ14, h13, h⟩ := bnd_some h
    refine aw_cV (P' := pX12_open) (idx := 397) (d' := 5) (c := 12) (n := 0) (k := 0) [aI (σ.1 3 (ix (v1 + 1)))] [] (ov := (some (aI r15))) (stk2 := [aI r15]) okp_X12_open (by decide +kernel) ml_RX12_397 vok_X12_open (by decide) rfl nar_X12_open (by decide) rfl (Nat.le_of_ble_eq_true rfl) (ok_X12_open h13) rfl ?_
    obtain ⟨hg, h⟩ := grd_some h
    cases h
    exact aw_zret rfl hg (by decide +kernel)
  rw [if_neg c1] at h
  refine awsw_cons (fun c1 => ?_) (fun c1 => ?_)
  · rw [if_pos c1] at h
    refine aw_seq [(.aload_n 0, 1, ax0), (.iload_n 2, 1, ax0), (.iload_n 3, 1, ax0)] (pc' := 127) (L' := [some (aR 12 0 0), some (aI v1), some (aI (σ.1 3 (ix (v1 + 1)))), some (aI (σ.1 3 (ix (v1 + 2))))]) (stk' := [aI (σ.1 3 (ix (v1 + 2))), aI (σ.1 3 (ix (v1 + 1))), aR 12 0 0]) (σ' := σ) (g := []) (by decide +kernel) rfl rfl ?_
    obtain ⟨r18, σ17, h16, h⟩ := bnd_some h
    refine aw_cV (P' := pX12_fetch) (idx := 400) (d' := 5) (c := 12) (n := 0) (k := 0) [aI (σ.1 3 (ix (v1 + 1))), aI (σ.1 3 (ix (v1 + 2)))] [] (ov := (some (aI r18))) (stk2 := [aI r18]) okp_X12_fetch (by decide +kernel) ml_RX12_400 vok_X12_fetch (by decide) rfl nar_X12_fetch (by decide) rfl (Nat.le_of_ble_eq_true rfl) (ok_X12_fetch h16) rfl ?_
    refine aw_if_lt (off := 7) (tgt := 137) (by decide +kernel) (by decide) (fun c1 => ?_) (fun c1 => ?_)
    · rw [if_pos c1] at h
      refine aw_seq [(.iconst 0, 1, (axI 0))] (pc' := 138) (L' := [some (aR 12 0 0), some (aI v1), some (aI (σ.1 3 (ix (v1 + 1)))), some (aI (σ.1 3 (ix (v1 + 2))))]) (stk' := [aI 0]) (σ' := σ17) (g := []) (by decide +kernel) rfl rfl ?_
      refine aw_forget (L' := [none, none, none, none]) (lsub_n (lsub_n (lsub_n (lsub_n (lsub_0))))) ?_
      exact ok_X12_isPlayed_138 0 σ17 _ h
    · rw [if_neg c1] at h
      refine aw_seq [(.iconst 1, 1, (axI 1))] (pc' := 134) (L' := [some (aR 12 0 0), some (aI v1), some (aI (σ.1 3 (ix (v1 + 1)))), some (aI (σ.1 3 (ix (v1 + 2))))]) (stk' := [aI 1]) (σ' := σ17) (g := []) (by decide +kernel) rfl rfl ?_
      refine aw_goto (off := 4) (tgt := 138) (by decide +kernel) (by decide) ?_
      refine aw_forget (L' := [none, none, none, none]) (lsub_n (lsub_n (lsub_n (lsub_n (lsub_0))))) ?_
      exact ok_X12_isPlayed_138 1 σ17 _ h
  rw [if_neg c1] at h
  refine awsw_cons (fun c1 => ?_) (fun c1 => ?_)
  · rw [if_pos c1] at h
    refine aw_seq [(.aload_n 0, 1, ax0), (.iload_n 2, 1, ax0)] (pc' := 141) (L' := [some (aR 12 0 0), some (aI v1), some (aI (σ.1 3 (ix (v1 + 1)))), some (aI (σ.1 3 (ix (v1 + 2))))]) (stk' := [aI (σ.1 3 (ix (v1 + 1))), aR 12 0 0]) (σ' := σ) (g := []) (by decide +kernel) rfl rfl ?_
    obtain ⟨r21, σ20, h19, h⟩ := bnd_some h
    refine aw_cV (P' := pX12_quench) (idx := 403) (d' := 5) (c := 12) (n := 0) (k := 0) [aI (σ.1 3 (ix (v1 + 1)))] [] (ov := (some (aI r21))) (stk2 := [aI r21]) okp_X12_quench (by decide +kernel) ml_RX12_403 vok_X12_quench (by decide) rfl nar_X12_quench (by decide) rfl (Nat.le_of_ble_eq_true rfl) (ok_X12_quench h19) rfl ?_
    obtain ⟨hg, h⟩ := grd_some h
    cases h
    exact aw_zret rfl hg (by decide +kernel)
  rw [if_neg c1] at h
  refine awsw_cons (fun c1 => ?_) (fun c1 => ?_)
  · rw [if_pos c1] at h
    refine aw_seq [(.aload_n 0, 1, ax0), (.iload_n 2, 1, ax0)] (pc' := 147) (L' := [some (aR 12 0 0), some (aI v1), some (aI (σ.1 3 (ix (v1 + 1)))), some (aI (σ.1 3 (ix (v1 + 2))))]) (stk' := [aI (σ.1 3 (ix (v1 + 1))), aR 12 0 0]) (σ' := σ) (g := []) (by decide +kernel) rfl rfl ?_
    obtain ⟨r24, σ23, h22, h⟩ := bnd_some h
    refine aw_cV (P' := pX12_warden) (idx := 406) (d' := 7) (c := 12) (n := 0) (k := 0) [aI (σ.1 3 (ix (v1 + 1)))] [] (ov := (some (aI r24))) (stk2 := [aI r24]) okp_X12_warden (by decide +kernel) ml_RX12_406 vok_X12_warden (by decide) rfl nar_X12_warden (by decide) rfl (Nat.le_of_ble_eq_true rfl) (ok_X12_warden h22) rfl ?_
    refine aw_seq [(.bipush (-2), 2, (axI (-2)))] (pc' := 152) (L' := [some (aR 12 0 0), some (aI v1), some (aI (σ.1 3 (ix (v1 + 1)))), some (aI (σ.1 3 (ix (v1 + 2))))]) (stk' := [aI (-2), aI r24]) (σ' := σ23) (g := []) (by decide +kernel) rfl rfl ?_
    refine aw_icmp_eq (off := 7) (tgt := 159) (by decide +kernel) (by decide) (fun c1 => ?_) (fun c1 => ?_)
    · rw [if_pos c1] at h
      refine aw_seq [(.iconst 0, 1, (axI 0))] (pc' := 160) (L' := [some (aR 12 0 0), some (aI v1), some (aI (σ.1 3 (ix (v1 + 1)))), some (aI (σ.1 3 (ix (v1 + 2))))]) (stk' := [aI 0]) (σ' := σ23) (g := []) (by decide +kernel) rfl rfl ?_
      refine aw_forget (L' := [none, none, none, none]) (lsub_n (lsub_n (lsub_n (lsub_n (lsub_0))))) ?_
      exact ok_X12_isPlayed_160 0 σ23 _ h
    · rw [if_neg c1] at h
      refine aw_seq [(.iconst 1, 1, (axI 1))] (pc' := 156) (L' := [some (aR 12 0 0), some (aI v1), some (aI (σ.1 3 (ix (v1 + 1)))), some (aI (σ.1 3 (ix (v1 + 2))))]) (stk' := [aI 1]) (σ' := σ23) (g := []) (by decide +kernel) rfl rfl ?_
      refine aw_goto (off := 4) (tgt := 160) (by decide +kernel) (by decide) ?_
      refine aw_forget (L' := [none, none, none, none]) (lsub_n (lsub_n (lsub_n (lsub_n (lsub_0))))) ?_
      exact ok_X12_isPlayed_160 1 σ23 _ h
  rw [if_neg c1] at h
  refine awsw_cons (fun c1 => ?_) (fun c1 => ?_)
  · rw [if_pos c1] at h
    refine aw_seq [(.aload_n 0, 1, ax0), (.iload_n 2, 1, ax0)] (pc' := 163) (L' := [some (aR 12 0 0), some (aI v1), some (aI (σ.1 3 (ix (v1 + 1)))), some (aI (σ.1 3 (ix (v1 + 2))))]) (stk' := [aI (σ.1 3 (ix (v1 + 1))), aR 12 0 0]) (σ' := σ) (g := []) (by decide +kernel) rfl rfl ?_
    obtain ⟨r27, σ26, h25, h⟩ := bnd_some h
    refine aw_cV (P' := pX12_arePassed) (idx := 382) (d' := 9) (c := 12) (n := 0) (k := 0) [aI (σ.1 3 (ix (v1 + 1)))] [] (ov := (some (aI r27))) (stk2 := [aI r27]) okp_X12_arePassed (by decide +kernel) ml_RX12_382 vok_X12_arePassed (by decide) rfl nar_X12_arePassed (by decide) rfl (Nat.le_of_ble_eq_true rfl) (ok_X12_arePassed h25) rfl ?_
    obtain ⟨hg, h⟩ := grd_some h
    cases h
    exact aw_zret rfl hg (by decide +kernel)
  rw [if_neg c1] at h
  refine awsw_nil ?_
  refine aw_seq [(.iconst 1, 1, (axI 1))] (pc' := 168) (L' := [some (aR 12 0 0), some (aI v1), some (aI (σ.1 3 (ix (v1 + 1)))), some (aI (σ.1 3 (ix (v1 + 2))))]) (stk' := [aI 1]) (σ' := σ) (g := []) (by decide +kernel) rfl rfl ?_
  cases h
  exact aw_zret rfl bz_1 (by decide +kernel)
def f_X12_played_21   : Nat → Int32 → Int32 → Sg → Option (Int32 × Sg)
  | 0, _, _, _ => none
  | fu + 1, v1, v2, σ =>
    grd (inb (705 * v1) 2820 && true) <|
    if (σ.1 3 (ix (705 * v1))) ≤ v2 then (
      some ((-1), σ)
    ) else (
      bnd (f_X12_isPlayed (((705 * v1) + 1) + (4 * v2)) σ) fun r3 σ2 =>
      if r3 = 0 then (
        some (v2, σ2)
      ) else (
        (f_X12_played_21 fu) v1 (v2 + 1) σ2
      )
    )
set_option maxRecDepth 100000 in
set_option maxHeartbeats 4000000 in
theorem ok_X12_played_21 {κ : Kd}    : ∀ (fu : Nat) (v1 : Int32) (v2 : Int32) (σ : Sg) (q : (Int32 × Sg)), f_X12_played_21 fu v1 v2 σ = some q → AW κ pX12_played 11 (some (aI q.1), q.2) 21 [some (aR 12 0 0), some (aI v1), some (aI v2)] [] σ := by
  intro fu
  induction fu with
  | zero =>
    intro v1 v2 σ q h
    unfold f_X12_played_21 at h
    cases h
  | succ fu ih =>
    intro v1 v2 σ q h
    unfold f_X12_played_21 at h
    obtain ⟨hg, h⟩ := grd_some h
    refine aw_seq [(.iload_n 2, 1, ax0), (.aload_n 0, 1, ax0), (.getfield 16, 3, (axF 12 2 (2, 3, 13, some 2820))), (.sipush 705, 3, (axI 705)), (.iload_n 1, 1, ax0), (.imul, 1, ax0), (.iaload, 1, ax0)] (pc' := 32) (L' := [some (aR 12 0 0), some (aI v1), some (aI v2)]) (stk' := [aI (σ.1 3 (ix (705 * v1))), aI v2]) (σ' := σ) (g := [inb (705 * v1) 2820]) (by decide +kernel) rfl hg ?_
    refine aw_icmp_ge (off := 29) (tgt := 61) (by decide +kernel) (by decide) (fun c1 => ?_) (fun c1 => ?_)
    · rw [if_pos c1] at h
      refine aw_seq [(.iconst (-1), 1, (axI (-1)))] (pc' := 62) (L' := [some (aR 12 0 0), some (aI v1), some (aI v2)]) (stk' := [aI (-1)]) (σ' := σ) (g := []) (by decide +kernel) rfl rfl ?_
      cases h
      exact aw_iret rfl (by decide +kernel)
    · rw [if_neg c1] at h
      refine aw_seq [(.aload_n 0, 1, ax0), (.sipush 705, 3, (axI 705)), (.iload_n 1, 1, ax0), (.imul, 1, ax0), (.iconst 1, 1, (axI 1)), (.iadd, 1, ax0), (.iconst 4, 1, (axI 4)), (.iload_n 2, 1, ax0), (.imul, 1, ax0), (.iadd, 1, ax0)] (pc' := 47) (L' := [some (aR 12 0 0), some (aI v1), some (aI v2)]) (stk' := [aI (((705 * v1) + 1) + (4 * v2)), aR 12 0 0]) (σ' := σ) (g := []) (by decide +kernel) rfl rfl ?_
      obtain ⟨r3, σ2, h1, h⟩ := bnd_some h
      refine aw_cV (P' := pX12_isPlayed) (idx := 409) (d' := 10) (c := 12) (n := 0) (k := 0) [aI (((705 * v1) + 1) + (4 * v2))] [] (ov := (some (aI r3))) (stk2 := [aI r3]) okp_X12_isPlayed (by decide +kernel) ml_RX12_409 vok_X12_isPlayed (by decide) rfl nar_X12_isPlayed (by decide) rfl (Nat.le_of_ble_eq_true rfl) (ok_X12_isPlayed h1) rfl ?_
      refine aw_if_ne (off := 5) (tgt := 55) (by decide +kernel) (by decide) (fun c1 => ?_) (fun c1 => ?_)
      · rw [if_neg c1] at h
        refine aw_seq [(.iinc 2 1, 3, (axI 1))] (pc' := 58) (L' := [some (aR 12 0 0), some (aI v1), some (aI (v2 + 1))]) (stk' := []) (σ' := σ2) (g := []) (by decide +kernel) rfl rfl ?_
        refine aw_goto (off := (-37)) (tgt := 21) (by decide +kernel) (by decide) ?_
        refine aw_forget (L' := [some (aR 12 0 0), some (aI v1), some (aI (v2 + 1))]) (lsub_s (lsub_s (lsub_s (lsub_0)))) ?_
        exact ih v1 (v2 + 1) σ2 _ h
      · rw [if_pos c1] at h
        refine aw_seq [(.iload_n 2, 1, ax0)] (pc' := 54) (L' := [some (aR 12 0 0), some (aI v1), some (aI v2)]) (stk' := [aI v2]) (σ' := σ2) (g := []) (by decide +kernel) rfl rfl ?_
        cases h
        exact aw_iret rfl (by decide +kernel)
def f_X12_played (v1 : Int32) (σ : Sg) : Option (Int32 × Sg) :=
  grd (inb 1 1986 && true) <|
  bnd (f_X12_isIn v1 0 ((σ.1 1 (ix 1)) - 1) σ) fun r6 σ5 =>
  if r6 = 0 then (
    some ((-2), σ5)
  ) else (
    f_X12_played_21 FU v1 0 σ5
  )
set_option maxRecDepth 100000 in
set_option maxHeartbeats 4000000 in
theorem ok_X12_played {κ : Kd} {v1 : Int32} {σ : Sg} {q : (Int32 × Sg)} (h : f_X12_played v1 σ = some q) : AMet κ pX12_played 11 [aR 12 0 0, aI v1] σ (some (aI q.1), q.2) := by
  unfold f_X12_played at h
  refine amet_of okp_X12_played [(false, aR 12 0 0), (false, aI v1)] (List.forall_mem_cons.mpr ⟨rfl, List.forall_mem_cons.mpr ⟨rfl, (fun _ hn => absurd hn List.not_mem_nil)⟩⟩) 1 rfl ?_
  show AW κ pX12_played 11 (some (aI q.1), q.2) 0 [some (aR 12 0 0), some (aI v1), none] [] σ
  obtain ⟨hg, h⟩ := grd_some h
  refine aw_seq [(.iload_n 1, 1, ax0), (.iconst 0, 1, (axI 0)), (.aload_n 0, 1, ax0), (.getfield 7, 3, (axF 12 0 (2, 1, 13, some 1986))), (.iconst 1, 1, (axI 1)), (.iaload, 1, ax0), (.iconst 1, 1, (axI 1)), (.isub, 1, ax0)] (pc' := 10) (L' := [some (aR 12 0 0), some (aI v1), none]) (stk' := [aI ((σ.1 1 (ix 1)) - 1), aI 0, aI v1]) (σ' := σ) (g := [inb 1 1986]) (by decide +kernel) rfl hg ?_
  obtain ⟨r6, σ5, h4, h⟩ := bnd_some h
  refine aw_cS (P' := pX12_isIn) (idx := 69) (d' := 1) [aI v1, aI 0, aI ((σ.1 1 (ix 1)) - 1)] [] (ov := (some (aI r6))) (stk2 := [aI r6]) okp_X12_isIn (by decide +kernel) ml_RX12_69 tok_X12_isIn nar_X12_isIn (by decide) rfl (Nat.le_of_ble_eq_true rfl) (ok_X12_isIn h4) rfl ?_
  refine aw_if_ne (off := 6) (tgt := 19) (by decide +kernel) (by decide) (fun c1 => ?_) (fun c1 => ?_)
  · rw [if_neg c1] at h
    refine aw_seq [(.iconst 0, 1, (axI 0)), (.istore_n 2, 1, ax0)] (pc' := 21) (L' := [some (aR 12 0 0), some (aI v1), some (aI 0)]) (stk' := []) (σ' := σ5) (g := []) (by decide +kernel) rfl rfl ?_
    refine aw_forget (L' := [some (aR 12 0 0), some (aI v1), some (aI 0)]) (lsub_s (lsub_s (lsub_s (lsub_0)))) ?_
    exact ok_X12_played_21 FU v1 0 σ5 _ h
  · rw [if_pos c1] at h
    refine aw_seq [(.bipush (-2), 2, (axI (-2)))] (pc' := 18) (L' := [some (aR 12 0 0), some (aI v1), none]) (stk' := [aI (-2)]) (σ' := σ5) (g := []) (by decide +kernel) rfl rfl ?_
    cases h
    exact aw_iret rfl (by decide +kernel)
def f_X12_happens_26    (σ : Sg) : Option Sg :=
  some σ
set_option maxRecDepth 100000 in
set_option maxHeartbeats 4000000 in
theorem ok_X12_happens_26 {κ : Kd}    : ∀  (σ : Sg) (q : Sg), f_X12_happens_26  σ = some q → AW κ pX12_happens 9 (none, q) 26 [none, none, none] [] σ := by
  intro  σ q h
  unfold f_X12_happens_26 at h
  cases h
  exact aw_vret rfl (by decide +kernel)
def f_X12_happens_209    (σ : Sg) : Option Sg :=
  some σ
set_option maxRecDepth 100000 in
set_option maxHeartbeats 4000000 in
theorem ok_X12_happens_209 {κ : Kd}    : ∀  (σ : Sg) (q : Sg), f_X12_happens_209  σ = some q → AW κ pX12_happens 9 (none, q) 209 [none, none, none] [] σ := by
  intro  σ q h
  unfold f_X12_happens_209 at h
  cases h
  exact aw_vret rfl (by decide +kernel)
def f_X12_happens (v1 : Int32) (σ : Sg) : Option Sg :=
  grd ((!decide ((8 : Int32) = 0)) && true) <|
  if (jrem v1 8) = 7 then (
    grd (inb 6 1986 && true) <|
    if 9999 ≤ (σ.1 1 (ix 6)) then (
      f_X12_happens_26 σ
    ) else (
      bndV (f_X12_pass σ) fun σ32 =>
      f_X12_happens_26 σ32
    )
  ) else (
    grd (inb 0 1986 && true) <|
    if (σ.1 1 (ix 0)) = 0 then (
      some σ
    ) else (
      grd (inb 0 1986 && ((!decide ((σ.1 1 (ix 0)) = 0)) && ((!decide ((8 : Int32) = 0)) && true))) <|
      if (jrem v1 8) = 2 then (
        bnd (f_X12_isSo (jrem v1 (σ.1 1 (ix 0))) 2 σ) fun r3 σ2 =>
        if r3 = 0 then (
          f_X12_happens_209 σ2
        ) else (
          bndV (f_X12_put (jrem v1 (σ.1 1 (ix 0))) 0 1 σ2) fun σ5 =>
          f_X12_happens_209 σ5
        )
      ) else (
      if (jrem v1 8) = 3 then (
        bnd (f_X12_isSo (jrem v1 (σ.1 1 (ix 0))) 1 σ) fun r8 σ7 =>
        if r8 = 0 then (
          f_X12_happens_209 σ7
        ) else (
          bndV (f_X12_put (jrem v1 (σ.1 1 (ix 0))) 0 2 σ7) fun σ10 =>
          f_X12_happens_209 σ10
        )
      ) else (
      if (jrem v1 8) = 4 then (
        grd ((!decide ((8 : Int32) = 0)) && (inb 0 1986 && ((!decide ((σ.1 1 (ix 0)) = 0)) && true))) <|
        bnd (f_X12_canFetch (jrem v1 (σ.1 1 (ix 0))) (jrem (v1 / 8) (σ.1 1 (ix 0))) σ) fun r13 σ12 =>
        if r13 = 0 then (
          f_X12_happens_209 σ12
        ) else (
          grd ((!decide ((8 : Int32) = 0)) && (inb 0 1986 && ((!decide ((σ12.1 1 (ix 0)) = 0)) && true))) <|
          bndV (f_X12_fetchNow (jrem v1 (σ.1 1 (ix 0))) (jrem (v1 / 8) (σ12.1 1 (ix 0))) σ12) fun σ15 =>
          f_X12_happens_209 σ15
        )
      ) else (
      if (jrem v1 8) = 5 then (
        bnd (f_X12_isSo (jrem v1 (σ.1 1 (ix 0))) 3 σ) fun r18 σ17 =>
        if r18 = 0 then (
          f_X12_happens_209 σ17
        ) else (
          bndV (f_X12_put (jrem v1 (σ.1 1 (ix 0))) 0 0 σ17) fun σ20 =>
          bndV (f_X12_put (jrem v1 (σ.1 1 (ix 0))) 1 0 σ20) fun σ22 =>
          f_X12_happens_209 σ22
        )
      ) else (
      if (jrem v1 8) = 6 then (
        bnd (f_X12_wardenNow (jrem v1 (σ.1 1 (ix 0))) σ) fun r25 σ24 =>
        f_X12_happens_209 σ24
      ) else (
        bnd (f_X12_isSo (jrem v1 (σ.1 1 (ix 0))) 0 σ) fun r28 σ27 =>
        if r28 = 0 then (
          f_X12_happens_209 σ27
        ) else (
          bndV (f_X12_lightNow (jrem v1 (σ.1 1 (ix 0))) σ27) fun σ30 =>
          f_X12_happens_209 σ30
        )
      )))))
    )
  )
set_option maxRecDepth 100000 in
set_option maxHeartbeats 4000000 in
theorem ok_X12_happens {κ : Kd} {v1 : Int32} {σ : Sg} {q : Sg} (h : f_X12_happens v1 σ = some q) : AMet κ pX12_happens 9 [aR 12 0 0, aI v1] σ (none, q) := by
  unfold f_X12_happens at h
  refine amet_of okp_X12_happens [(false, aR 12 0 0), (false, aI v1)] (List.forall_mem_cons.mpr ⟨rfl, List.forall_mem_cons.mpr ⟨rfl, (fun _ hn => absurd hn List.not_mem_nil)⟩⟩) 1 rfl ?_
  show AW κ pX12_happens 9 (none, q) 0 [some (aR 12 0 0), some (aI v1), none] [] σ
  obtain ⟨hg, h⟩ := grd_some h
  refine aw_seq [(.iload_n 1, 1, ax0), (.bipush 8, 2, (axI 8)), (.irem, 1, ax0), (.bipush 7, 2, (axI 7))] (pc' := 6) (L' := [some (aR 12 0 0), some (aI v1), none]) (stk' := [aI 7, aI (jrem v1 8)]) (σ' := σ) (g := [(!decide ((8 : Int32) = 0))]) (by decide +kernel) rfl hg ?_
  refine aw_icmp_ne (off := 21) (tgt := 27) (by decide +kernel) (by decide) (fun c1 => ?_) (fun c1 => ?_)
  · rw [if_neg c1] at h
    obtain ⟨hg, h⟩ := grd_some h
    refine aw_seq [(.aload_n 0, 1, ax0), (.getfield 7, 3, (axF 12 0 (2, 1, 13, some 1986))), (.iconst 0, 1, (axI 0)), (.iaload, 1, ax0)] (pc' := 33) (L' := [some (aR 12 0 0), some (aI v1), none]) (stk' := [aI (σ.1 1 (ix 0))]) (σ' := σ) (g := [inb 0 1986]) (by decide +kernel) rfl hg ?_
    refine aw_if_ne (off := 4) (tgt := 37) (by decide +kernel) (by decide) (fun c1 => ?_) (fun c1 => ?_)
    · rw [if_neg c1] at h
      obtain ⟨hg, h⟩ := grd_some h
      refine aw_seq [(.iload_n 1, 1, ax0), (.aload_n 0, 1, ax0), (.getfield 7, 3, (axF 12 0 (2, 1, 13, some 1986))), (.iconst 0, 1, (axI 0)), (.iaload, 1, ax0), (.irem, 1, ax0), (.istore_n 2, 1, ax0), (.iload_n 1, 1, ax0), (.bipush 8, 2, (axI 8)), (.irem, 1, ax0)] (pc' := 50) (L' := [some (aR 12 0 0), some (aI v1), some (aI (jrem v1 (σ.1 1 (ix 0))))]) (stk' := [aI (jrem v1 8)]) (σ' := σ) (g := [inb 0 1986, (!decide ((σ.1 1 (ix 0)) = 0)), (!decide ((8 : Int32) = 0))]) (by decide +kernel) rfl hg ?_
      refine aw_table (dflt := 145) (lo := 2) (hi := 6) (offs := #[34, 53, 72, 110, 136]) (len := 34) (dt := 195) (by decide +kernel) [(2, 84), (3, 103), (4, 122), (5, 160), (6, 186)] (by decide +kernel) ?_
      refine awsw_cons (fun c1 => ?_) (fun c1 => ?_)
      · rw [if_pos c1] at h
        refine aw_seq [(.aload_n 0, 1, ax0), (.iload_n 2, 1, ax0), (.iconst 2, 1, (axI 2))] (pc' := 87) (L' := [some (aR 12 0 0), some (aI v1), some (aI (jrem v1 (σ.1 1 (ix 0))))]) (stk' := [aI 2, aI (jrem v1 (σ.1 1 (ix 0))), aR 12 0 0]) (σ' := σ) (g := []) (by decide +kernel) rfl rfl ?_
        obtain ⟨r3, σ2, h1, h⟩ := bnd_some h
        refine aw_cV (P' := pX12_isSo) (idx := 352) (d' := 3) (c := 12) (n := 0) (k := 0) [aI (jrem v1 (σ.1 1 (ix 0))), aI 2] [] (ov := (some (aI r3))) (stk2 := [aI r3]) okp_X12_isSo (by decide +kernel) ml_RX12_352 vok_X12_isSo (by decide) rfl nar_X12_isSo (by decide) rfl (Nat.le_of_ble_eq_true rfl) (ok_X12_isSo h1) rfl ?_
        refine aw_if_eq (off := 119) (tgt := 209) (by decide +kernel) (by decide) (fun c1 => ?_) (fun c1 => ?_)
        · rw [if_pos c1] at h
          refine aw_forget (L' := [none, none, none]) (lsub_n (lsub_n (lsub_n (lsub_0)))) ?_
          exact ok_X12_happens_209 σ2 _ h
        · rw [if_neg c1] at h
          refine aw_seq [(.aload_n 0, 1, ax0), (.iload_n 2, 1, ax0), (.iconst 0, 1, (axI 0)), (.iconst 1, 1, (axI 1))] (pc' := 97) (L' := [some (aR 12 0 0), some (aI v1), some (aI (jrem v1 (σ.1 1 (ix 0))))]) (stk' := [aI 1, aI 0, aI (jrem v1 (σ.1 1 (ix 0))), aR 12 0 0]) (σ' := σ2) (g := []) (by decide +kernel) rfl rfl ?_
          obtain ⟨σ5, h4, h⟩ := bndV_some h
          refine aw_cV (P' := pX12_put) (idx := 80) (d' := 1) (c := 12) (n := 0) (k := 0) [aI (jrem v1 (σ.1 1 (ix 0))), aI 0, aI 1] [] (ov := none) (stk2 := []) okp_X12_put (by decide +kernel) ml_RX12_80 vok_X12_put (by decide) rfl nar_X12_put (by decide) rfl (Nat.le_of_ble_eq_true rfl) (ok_X12_put h4) rfl ?_
          refine aw_goto (off := 109) (tgt := 209) (by decide +kernel) (by decide) ?_
          refine aw_forget (L' := [none, none, none]) (lsub_n (lsub_n (lsub_n (lsub_0)))) ?_
          exact ok_X12_happens_209 σ5 _ h
      rw [if_neg c1] at h
      refine awsw_cons (fun c1 => ?_) (fun c1 => ?_)
      · rw [if_pos c1] at h
        refine aw_seq [(.aload_n 0, 1, ax0), (.iload_n 2, 1, ax0), (.iconst 1, 1, (axI 1))] (pc' := 106) (L' := [some (aR 12 0 0), some (aI v1), some (aI (jrem v1 (σ.1 1 (ix 0))))]) (stk' := [aI 1, aI (jrem v1 (σ.1 1 (ix 0))), aR 12 0 0]) (σ' := σ) (g := []) (by decide +kernel) rfl rfl ?_
        obtain ⟨r8, σ7, h6, h⟩ := bnd_some h
        refine aw_cV (P' := pX12_isSo) (idx := 352) (d' := 3) (c := 12) (n := 0) (k := 0) [aI (jrem v1 (σ.1 1 (ix 0))), aI 1] [] (ov := (some (aI r8))) (stk2 := [aI r8]) okp_X12_isSo (by decide +kernel) ml_RX12_352 vok_X12_isSo (by decide) rfl nar_X12_isSo (by decide) rfl (Nat.le_of_ble_eq_true rfl) (ok_X12_isSo h6) rfl ?_
        refine aw_if_eq (off := 100) (tgt := 209) (by decide +kernel) (by decide) (fun c1 => ?_) (fun c1 => ?_)
        · rw [if_pos c1] at h
          refine aw_forget (L' := [none, none, none]) (lsub_n (lsub_n (lsub_n (lsub_0)))) ?_
          exact ok_X12_happens_209 σ7 _ h
        · rw [if_neg c1] at h
          refine aw_seq [(.aload_n 0, 1, ax0), (.iload_n 2, 1, ax0), (.iconst 0, 1, (axI 0)), (.iconst 2, 1, (axI 2))] (pc' := 116) (L' := [some (aR 12 0 0), some (aI v1), some (aI (jrem v1 (σ.1 1 (ix 0))))]) (stk' := [aI 2, aI 0, aI (jrem v1 (σ.1 1 (ix 0))), aR 12 0 0]) (σ' := σ7) (g := []) (by decide +kernel) rfl rfl ?_
          obtain ⟨σ10, h9, h⟩ := bndV_some h
          refine aw_cV (P' := pX12_put) (idx := 80) (d' := 1) (c := 12) (n := 0) (k := 0) [aI (jrem v1 (σ.1 1 (ix 0))), aI 0, aI 2] [] (ov := none) (stk2 := []) okp_X12_put (by decide +kernel) ml_RX12_80 vok_X12_put (by decide) rfl nar_X12_put (by decide) rfl (Nat.le_of_ble_eq_true rfl) (ok_X12_put h9) rfl ?_
          refine aw_goto (off := 90) (tgt := 209) (by decide +kernel) (by decide) ?_
          refine aw_forget (L' := [none, none, none]) (lsub_n (lsub_n (lsub_n (lsub_0)))) ?_
          exact ok_X12_happens_209 σ10 _ h
      rw [if_neg c1] at h
      refine awsw_cons (fun c1 => ?_) (fun c1 => ?_)
      · rw [if_pos c1] at h
        obtain ⟨hg, h⟩ := grd_some h
        refine aw_seq [(.aload_n 0, 1, ax0), (.iload_n 2, 1, ax0), (.iload_n 1, 1, ax0), (.bipush 8, 2, (axI 8)), (.idiv, 1, ax0), (.aload_n 0, 1, ax0), (.getfield 7, 3, (axF 12 0 (2, 1, 13, some 1986))), (.iconst 0, 1, (axI 0)), (.iaload, 1, ax0), (.irem, 1, ax0)] (pc' := 135) (L' := [some (aR 12 0 0), some (aI v1), some (aI (jrem v1 (σ.1 1 (ix 0))))]) (stk' := [aI (jrem (v1 / 8) (σ.1 1 (ix 0))), aI (jrem v1 (σ.1 1 (ix 0))), aR 12 0 0]) (σ' := σ) (g := [(!decide ((8 : Int32) = 0)), inb 0 1986, (!decide ((σ.1 1 (ix 0)) = 0))]) (by decide +kernel) rfl hg ?_
        obtain ⟨r13, σ12, h11, h⟩ := bnd_some h
        refine aw_cV (P' := pX12_canFetch) (idx := 367) (d' := 4) (c := 12) (n := 0) (k := 0) [aI (jrem v1 (σ.1 1 (ix 0))), aI (jrem (v1 / 8) (σ.1 1 (ix 0)))] [] (ov := (some (aI r13))) (stk2 := [aI r13]) okp_X12_canFetch (by decide +kernel) ml_RX12_367 vok_X12_canFetch (by decide) rfl nar_X12_canFetch (by decide) rfl (Nat.le_of_ble_eq_true rfl) (ok_X12_canFetch h11) rfl ?_
        refine aw_if_eq (off := 71) (tgt := 209) (by decide +kernel) (by decide) (fun c1 => ?_) (fun c1 => ?_)
        · rw [if_pos c1] at h
          refine aw_forget (L' := [none, none, none]) (lsub_n (lsub_n (lsub_n (lsub_0)))) ?_
          exact ok_X12_happens_209 σ12 _ h
        · rw [if_neg c1] at h
          obtain ⟨hg, h⟩ := grd_some h
          refine aw_seq [(.aload_n 0, 1, ax0), (.iload_n 2, 1, ax0), (.iload_n 1, 1, ax0), (.bipush 8, 2, (axI 8)), (.idiv, 1, ax0), (.aload_n 0, 1, ax0), (.getfield 7, 3, (axF 12 0 (2, 1, 13, some 1986))), (.iconst 0, 1, (axI 0)), (.iaload, 1, ax0), (.irem, 1, ax0)] (pc' := 154) (L' := [some (aR 12 0 0), some (aI v1), some (aI (jrem v1 (σ.1 1 (ix 0))))]) (stk' := [aI (jrem (v1 / 8) (σ12.1 1 (ix 0))), aI (jrem v1 (σ.1 1 (ix 0))), aR 12 0 0]) (σ' := σ12) (g := [(!decide ((8 : Int32) = 0)), inb 0 1986, (!decide ((σ12.1 1 (ix 0)) = 0))]) (by decide +kernel) rfl hg ?_
          obtain ⟨σ15, h14, h⟩ := bndV_some h
          refine aw_cV (P' := pX12_fetchNow) (idx := 370) (d' := 2) (c := 12) (n := 0) (k := 0) [aI (jrem v1 (σ.1 1 (ix 0))), aI (jrem (v1 / 8) (σ12.1 1 (ix 0)))] [] (ov := none) (stk2 := []) okp_X12_fetchNow (by decide +kernel) ml_RX12_370 vok_X12_fetchNow (by decide) rfl nar_X12_fetchNow (by decide) rfl (Nat.le_of_ble_eq_true rfl) (ok_X12_fetchNow h14) rfl ?_
          refine aw_goto (off := 52) (tgt := 209) (by decide +kernel) (by decide) ?_
          refine aw_forget (L' := [none, none, none]) (lsub_n (lsub_n (lsub_n (lsub_0)))) ?_
          exact ok_X12_happens_209 σ15 _ h
      rw [if_neg c1] at h
      refine awsw_cons (fun c1 => ?_) (fun c1 => ?_)
      · rw [if_pos c1] at h
        refine aw_seq [(.aload_n 0, 1, ax0), (.iload_n 2, 1, ax0), (.iconst 3, 1, (axI 3))] (pc' := 163) (L' := [some (aR 12 0 0), some (aI v1), some (aI (jrem v1 (σ.1 1 (ix 0))))]) (stk' := [aI 3, aI (jrem v1 (σ.1 1 (ix 0))), aR 12 0 0]) (σ' := σ) (g := []) (by decide +kernel) rfl rfl ?_
        obtain ⟨r18, σ17, h16, h⟩ := bnd_some h
        refine aw_cV (P' := pX12_isSo) (idx := 352) (d' := 3) (c := 12) (n := 0) (k := 0) [aI (jrem v1 (σ.1 1 (ix 0))), aI 3] [] (ov := (some (aI r18))) (stk2 := [aI r18]) okp_X12_isSo (by decide +kernel) ml_RX12_352 vok_X12_isSo (by decide) rfl nar_X12_isSo (by decide) rfl (Nat.le_of_ble_eq_true rfl) (ok_X12_isSo h16) rfl ?_
        refine aw_if_eq (off := 43) (tgt := 209) (by decide +kernel) (by decide) (fun c1 => ?_) (fun c1 => ?_)
        · rw [if_pos c1] at h
          refine aw_forget (L' := [none, none, none]) (lsub_n (lsub_n (lsub_n (lsub_0)))) ?_
          exact ok_X12_happens_209 σ17 _ h
        · rw [if_neg c1] at h
          refine aw_seq [(.aload_n 0, 1, ax0), (.iload_n 2, 1, ax0), (.iconst 0, 1, (axI 0)), (.iconst 0, 1, (axI 0))] (pc' := 173) (L' := [some (aR 12 0 0), some (aI v1), some (aI (jrem v1 (σ.1 1 (ix 0))))]) (stk' := [aI 0, aI 0, aI (jrem v1 (σ.1 1 (ix 0))), aR 12 0 0]) (σ' := σ17) (g := []) (by decide +kernel) rfl rfl ?_
          obtain ⟨σ20, h19, h⟩ := bndV_some h
          refine aw_cV (P' := pX12_put) (idx := 80) (d' := 1) (c := 12) (n := 0) (k := 0) [aI (jrem v1 (σ.1 1 (ix 0))), aI 0, aI 0] [] (ov := none) (stk2 := []) okp_X12_put (by decide +kernel) ml_RX12_80 vok_X12_put (by decide) rfl nar_X12_put (by decide) rfl (Nat.le_of_ble_eq_true rfl) (ok_X12_put h19) rfl ?_
          refine aw_seq [(.aload_n 0, 1, ax0), (.iload_n 2, 1, ax0), (.iconst 1, 1, (axI 1)), (.iconst 0, 1, (axI 0))] (pc' := 180) (L' := [some (aR 12 0 0), some (aI v1), some (aI (jrem v1 (σ.1 1 (ix 0))))]) (stk' := [aI 0, aI 1, aI (jrem v1 (σ.1 1 (ix 0))), aR 12 0 0]) (σ' := σ20) (g := []) (by decide +kernel) rfl rfl ?_
          obtain ⟨σ22, h21, h⟩ := bndV_some h
          refine aw_cV (P' := pX12_put) (idx := 80) (d' := 1) (c := 12) (n := 0) (k := 0) [aI (jrem v1 (σ.1 1 (ix 0))), aI 1, aI 0] [] (ov := none) (stk2 := []) okp_X12_put (by decide +kernel) ml_RX12_80 vok_X12_put (by decide) rfl nar_X12_put (by decide) rfl (Nat.le_of_ble_eq_true rfl) (ok_X12_put h21) rfl ?_
          refine aw_goto (off := 26) (tgt := 209) (by decide +kernel) (by decide) ?_
          refine aw_forget (L' := [none, none, none]) (lsub_n (lsub_n (lsub_n (lsub_0)))) ?_
          exact ok_X12_happens_209 σ22 _ h
      rw [if_neg c1] at h
      refine awsw_cons (fun c1 => ?_) (fun c1 => ?_)
      · rw [if_pos c1] at h
        refine aw_seq [(.aload_n 0, 1, ax0), (.iload_n 2, 1, ax0)] (pc' := 188) (L' := [some (aR 12 0 0), some (aI v1), some (aI (jrem v1 (σ.1 1 (ix 0))))]) (stk' := [aI (jrem v1 (σ.1 1 (ix 0))), aR 12 0 0]) (σ' := σ) (g := []) (by decide +kernel) rfl rfl ?_
        obtain ⟨r25, σ24, h23, h⟩ := bnd_some h
        refine aw_cV (P' := pX12_wardenNow) (idx := 376) (d' := 6) (c := 12) (n := 0) (k := 0) [aI (jrem v1 (σ.1 1 (ix 0)))] [] (ov := (some (aI r25))) (stk2 := [aI r25]) okp_X12_wardenNow (by decide +kernel) ml_RX12_376 vok_X12_wardenNow (by decide) rfl nar_X12_wardenNow (by decide) rfl (Nat.le_of_ble_eq_true rfl) (ok_X12_wardenNow h23) rfl ?_
        refine aw_seq [(.pop, 1, ax0)] (pc' := 192) (L' := [some (aR 12 0 0), some (aI v1), some (aI (jrem v1 (σ.1 1 (ix 0))))]) (stk' := []) (σ' := σ24) (g := []) (by decide +kernel) rfl rfl ?_
        refine aw_goto (off := 17) (tgt := 209) (by decide +kernel) (by decide) ?_
        refine aw_forget (L' := [none, none, none]) (lsub_n (lsub_n (lsub_n (lsub_0)))) ?_
        exact ok_X12_happens_209 σ24 _ h
      rw [if_neg c1] at h
      refine awsw_nil ?_
      refine aw_seq [(.aload_n 0, 1, ax0), (.iload_n 2, 1, ax0), (.iconst 0, 1, (axI 0))] (pc' := 198) (L' := [some (aR 12 0 0), some (aI v1), some (aI (jrem v1 (σ.1 1 (ix 0))))]) (stk' := [aI 0, aI (jrem v1 (σ.1 1 (ix 0))), aR 12 0 0]) (σ' := σ) (g := []) (by decide +kernel) rfl rfl ?_
      obtain ⟨r28, σ27, h26, h⟩ := bnd_some h
      refine aw_cV (P' := pX12_isSo) (idx := 352) (d' := 3) (c := 12) (n := 0) (k := 0) [aI (jrem v1 (σ.1 1 (ix 0))), aI 0] [] (ov := (some (aI r28))) (stk2 := [aI r28]) okp_X12_isSo (by decide +kernel) ml_RX12_352 vok_X12_isSo (by decide) rfl nar_X12_isSo (by decide) rfl (Nat.le_of_ble_eq_true rfl) (ok_X12_isSo h26) rfl ?_
      refine aw_if_eq (off := 8) (tgt := 209) (by decide +kernel) (by decide) (fun c1 => ?_) (fun c1 => ?_)
      · rw [if_pos c1] at h
        refine aw_forget (L' := [none, none, none]) (lsub_n (lsub_n (lsub_n (lsub_0)))) ?_
        exact ok_X12_happens_209 σ27 _ h
      · rw [if_neg c1] at h
        refine aw_seq [(.aload_n 0, 1, ax0), (.iload_n 2, 1, ax0)] (pc' := 206) (L' := [some (aR 12 0 0), some (aI v1), some (aI (jrem v1 (σ.1 1 (ix 0))))]) (stk' := [aI (jrem v1 (σ.1 1 (ix 0))), aR 12 0 0]) (σ' := σ27) (g := []) (by decide +kernel) rfl rfl ?_
        obtain ⟨σ30, h29, h⟩ := bndV_some h
        refine aw_cV (P' := pX12_lightNow) (idx := 358) (d' := 2) (c := 12) (n := 0) (k := 0) [aI (jrem v1 (σ.1 1 (ix 0)))] [] (ov := none) (stk2 := []) okp_X12_lightNow (by decide +kernel) ml_RX12_358 vok_X12_lightNow (by decide) rfl nar_X12_lightNow (by decide) rfl (Nat.le_of_ble_eq_true rfl) (ok_X12_lightNow h29) rfl ?_
        refine aw_forget (L' := [none, none, none]) (lsub_n (lsub_n (lsub_n (lsub_0)))) ?_
        exact ok_X12_happens_209 σ30 _ h
    · rw [if_pos c1] at h
      cases h
      exact aw_vret rfl (by decide +kernel)
  · rw [if_pos c1] at h
    obtain ⟨hg, h⟩ := grd_some h
    refine aw_seq [(.aload_n 0, 1, ax0), (.getfield 7, 3, (axF 12 0 (2, 1, 13, some 1986))), (.bipush 6, 2, (axI 6)), (.iaload, 1, ax0), (.sipush 9999, 3, (axI 9999))] (pc' := 19) (L' := [some (aR 12 0 0), some (aI v1), none]) (stk' := [aI 9999, aI (σ.1 1 (ix 6))]) (σ' := σ) (g := [inb 6 1986]) (by decide +kernel) rfl hg ?_
    refine aw_icmp_ge (off := 7) (tgt := 26) (by decide +kernel) (by decide) (fun c1 => ?_) (fun c1 => ?_)
    · rw [if_pos c1] at h
      refine aw_forget (L' := [none, none, none]) (lsub_n (lsub_n (lsub_n (lsub_0)))) ?_
      exact ok_X12_happens_26 σ _ h
    · rw [if_neg c1] at h
      refine aw_seq [(.aload_n 0, 1, ax0)] (pc' := 23) (L' := [some (aR 12 0 0), some (aI v1), none]) (stk' := [aR 12 0 0]) (σ' := σ) (g := []) (by decide +kernel) rfl rfl ?_
      obtain ⟨σ32, h31, h⟩ := bndV_some h
      refine aw_cV (P' := pX12_pass) (idx := 379) (d' := 8) (c := 12) (n := 0) (k := 0) [] [] (ov := none) (stk2 := []) okp_X12_pass (by decide +kernel) ml_RX12_379 vok_X12_pass (by decide) rfl nar_X12_pass (by decide) rfl (Nat.le_of_ble_eq_true rfl) (ok_X12_pass h31) rfl ?_
      refine aw_forget (L' := [none, none, none]) (lsub_n (lsub_n (lsub_n (lsub_0)))) ?_
      exact ok_X12_happens_26 σ32 _ h
def f_X12_winters_21    (σ : Sg) : Option (Int32 × Sg) :=
  some ((-1), σ)
set_option maxRecDepth 100000 in
set_option maxHeartbeats 4000000 in
theorem ok_X12_winters_21 {κ : Kd}    : ∀  (σ : Sg) (q : (Int32 × Sg)), f_X12_winters_21  σ = some q → AW κ pX12_winters 10 (some (aI q.1), q.2) 21 [none, none, none, none, none] [] σ := by
  intro  σ q h
  unfold f_X12_winters_21 at h
  refine aw_seq [(.iconst (-1), 1, (axI (-1)))] (pc' := 22) (L' := [none, none, none, none, none]) (stk' := [aI (-1)]) (σ' := σ) (g := []) (by decide +kernel) rfl rfl ?_
  cases h
  exact aw_iret rfl (by decide +kernel)
def f_X12_winters_43   : Nat → Int32 → Int32 → Sg → Option (Int32 × Sg)
  | 0, _, _, _ => none
  | fu + 1, v2, v3, σ =>
    if v2 ≤ v3 then (
      grd (inb 6 1986 && true) <|
      some ((σ.1 1 (ix 6)), σ)
    ) else (
      grd (inb 8 1986 && true) <|
      bndV (f_X12_anew σ) fun σ2 =>
      bndV (f_X12_happens (σ.1 1 (ix 8)) σ2) fun σ4 =>
      (f_X12_winters_43 fu) v2 (v3 + 1) σ4
    )
set_option maxRecDepth 100000 in
set_option maxHeartbeats 4000000 in
theorem ok_X12_winters_43 {κ : Kd}    : ∀ (fu : Nat) (v2 : Int32) (v3 : Int32) (σ : Sg) (q : (Int32 × Sg)), f_X12_winters_43 fu v2 v3 σ = some q → AW κ pX12_winters 10 (some (aI q.1), q.2) 43 [some (aR 12 0 0), none, some (aI v2), some (aI v3), none] [] σ := by
  intro fu
  induction fu with
  | zero =>
    intro v2 v3 σ q h
    unfold f_X12_winters_43 at h
    cases h
  | succ fu ih =>
    intro v2 v3 σ q h
    unfold f_X12_winters_43 at h
    refine aw_seq [(.iload_n 3, 1, ax0), (.iload_n 2, 1, ax0)] (pc' := 45) (L' := [some (aR 12 0 0), none, some (aI v2), some (aI v3), none]) (stk' := [aI v2, aI v3]) (σ' := σ) (g := []) (by decide +kernel) rfl rfl ?_
    refine aw_icmp_ge (off := 28) (tgt := 73) (by decide +kernel) (by decide) (fun c1 => ?_) (fun c1 => ?_)
    · rw [if_pos c1] at h
      obtain ⟨hg, h⟩ := grd_some h
      refine aw_seq [(.aload_n 0, 1, ax0), (.getfield 7, 3, (axF 12 0 (2, 1, 13, some 1986))), (.bipush 6, 2, (axI 6)), (.iaload, 1, ax0)] (pc' := 80) (L' := [some (aR 12 0 0), none, some (aI v2), some (aI v3), none]) (stk' := [aI (σ.1 1 (ix 6))]) (σ' := σ) (g := [inb 6 1986]) (by decide +kernel) rfl hg ?_
      cases h
      exact aw_iret rfl (by decide +kernel)
    · rw [if_neg c1] at h
      obtain ⟨hg, h⟩ := grd_some h
      refine aw_seq [(.aload_n 0, 1, ax0), (.getfield 7, 3, (axF 12 0 (2, 1, 13, some 1986))), (.bipush 8, 2, (axI 8)), (.iaload, 1, ax0), (.istore 4, 2, ax0), (.aload_n 0, 1, ax0)] (pc' := 58) (L' := [some (aR 12 0 0), none, some (aI v2), some (aI v3), some (aI (σ.1 1 (ix 8)))]) (stk' := [aR 12 0 0]) (σ' := σ) (g := [inb 8 1986]) (by decide +kernel) rfl hg ?_
      obtain ⟨σ2, h1, h⟩ := bndV_some h
      refine aw_cV (P' := pX12_anew) (idx := 316) (d' := 1) (c := 12) (n := 0) (k := 0) [] [] (ov := none) (stk2 := []) okp_X12_anew (by decide +kernel) ml_RX12_316 vok_X12_anew (by decide) rfl nar_X12_anew (by decide) rfl (Nat.le_of_ble_eq_true rfl) (ok_X12_anew h1) rfl ?_
      refine aw_seq [(.aload_n 0, 1, ax0), (.iload 4, 2, ax0)] (pc' := 64) (L' := [some (aR 12 0 0), none, some (aI v2), some (aI v3), some (aI (σ.1 1 (ix 8)))]) (stk' := [aI (σ.1 1 (ix 8)), aR 12 0 0]) (σ' := σ2) (g := []) (by decide +kernel) rfl rfl ?_
      obtain ⟨σ4, h3, h⟩ := bndV_some h
      refine aw_cV (P' := pX12_happens) (idx := 412) (d' := 9) (c := 12) (n := 0) (k := 0) [aI (σ.1 1 (ix 8))] [] (ov := none) (stk2 := []) okp_X12_happens (by decide +kernel) ml_RX12_412 vok_X12_happens (by decide) rfl nar_X12_happens (by decide) rfl (Nat.le_of_ble_eq_true rfl) (ok_X12_happens h3) rfl ?_
      refine aw_seq [(.iinc 3 1, 3, (axI 1))] (pc' := 70) (L' := [some (aR 12 0 0), none, some (aI v2), some (aI (v3 + 1)), some (aI (σ.1 1 (ix 8)))]) (stk' := []) (σ' := σ4) (g := []) (by decide +kernel) rfl rfl ?_
      refine aw_goto (off := (-27)) (tgt := 43) (by decide +kernel) (by decide) ?_
      refine aw_forget (L' := [some (aR 12 0 0), none, some (aI v2), some (aI (v3 + 1)), none]) (lsub_s (lsub_n (lsub_s (lsub_s (lsub_n (lsub_0)))))) ?_
      exact ih v2 (v3 + 1) σ4 _ h
def f_X12_winters (v1 : Int32) (v2 : Int32) (σ : Sg) : Option (Int32 × Sg) :=
  bnd (f_X12_isIn v1 0 9999 σ) fun r7 σ6 =>
  if r7 = 0 then (
    f_X12_winters_21 σ6
  ) else (
    bnd (f_X12_isIn v2 1 40 σ6) fun r10 σ9 =>
    if r10 = 0 then (
      f_X12_winters_21 σ9
    ) else (
      bndV (f_X12_keep σ9) fun σ12 =>
      grd (inb 8 1986 && true) <|
      ltσ (wI σ12 1 (ix 8) ((v1 * 2) + 163)) fun σ13 =>
      f_X12_winters_43 FU v2 0 σ13
    )
  )
set_option maxRecDepth 100000 in
set_option maxHeartbeats 4000000 in
theorem ok_X12_winters {κ : Kd} {v1 : Int32} {v2 : Int32} {σ : Sg} {q : (Int32 × Sg)} (h : f_X12_winters v1 v2 σ = some q) : AMet κ pX12_winters 10 [aR 12 0 0, aI v1, aI v2] σ (some (aI q.1), q.2) := by
  unfold f_X12_winters at h
  refine amet_of okp_X12_winters [(false, aR 12 0 0), (false, aI v1), (false, aI v2)] (List.forall_mem_cons.mpr ⟨rfl, List.forall_mem_cons.mpr ⟨rfl, List.forall_mem_cons.mpr ⟨rfl, (fun _ hn => absurd hn List.not_mem_nil)⟩⟩⟩) 2 rfl ?_
  show AW κ pX12_winters 10 (some (aI q.1), q.2) 0 [some (aR 12 0 0), some (aI v1), some (aI v2), none, none] [] σ
  refine aw_seq [(.iload_n 1, 1, ax0), (.iconst 0, 1, (axI 0)), (.sipush 9999, 3, (axI 9999))] (pc' := 5) (L' := [some (aR 12 0 0), some (aI v1), some (aI v2), none, none]) (stk' := [aI 9999, aI 0, aI v1]) (σ' := σ) (g := []) (by decide +kernel) rfl rfl ?_
  obtain ⟨r7, σ6, h5, h⟩ := bnd_some h
  refine aw_cS (P' := pX12_isIn) (idx := 69) (d' := 1) [aI v1, aI 0, aI 9999] [] (ov := (some (aI r7))) (stk2 := [aI r7]) okp_X12_isIn (by decide +kernel) ml_RX12_69 tok_X12_isIn nar_X12_isIn (by decide) rfl (Nat.le_of_ble_eq_true rfl) (ok_X12_isIn h5) rfl ?_
  refine aw_if_eq (off := 13) (tgt := 21) (by decide +kernel) (by decide) (fun c1 => ?_) (fun c1 => ?_)
  · rw [if_pos c1] at h
    refine aw_forget (L' := [none, none, none, none, none]) (lsub_n (lsub_n (lsub_n (lsub_n (lsub_n (lsub_0)))))) ?_
    exact ok_X12_winters_21 σ6 _ h
  · rw [if_neg c1] at h
    refine aw_seq [(.iload_n 2, 1, ax0), (.iconst 1, 1, (axI 1)), (.bipush 40, 2, (axI 40))] (pc' := 15) (L' := [some (aR 12 0 0), some (aI v1), some (aI v2), none, none]) (stk' := [aI 40, aI 1, aI v2]) (σ' := σ6) (g := []) (by decide +kernel) rfl rfl ?_
    obtain ⟨r10, σ9, h8, h⟩ := bnd_some h
    refine aw_cS (P' := pX12_isIn) (idx := 69) (d' := 1) [aI v2, aI 1, aI 40] [] (ov := (some (aI r10))) (stk2 := [aI r10]) okp_X12_isIn (by decide +kernel) ml_RX12_69 tok_X12_isIn nar_X12_isIn (by decide) rfl (Nat.le_of_ble_eq_true rfl) (ok_X12_isIn h8) rfl ?_
    refine aw_if_ne (off := 5) (tgt := 23) (by decide +kernel) (by decide) (fun c1 => ?_) (fun c1 => ?_)
    · rw [if_neg c1] at h
      refine aw_seq [(.aload_n 0, 1, ax0)] (pc' := 24) (L' := [some (aR 12 0 0), some (aI v1), some (aI v2), none, none]) (stk' := [aR 12 0 0]) (σ' := σ9) (g := []) (by decide +kernel) rfl rfl ?_
      obtain ⟨σ12, h11, h⟩ := bndV_some h
      refine aw_cV (P' := pX12_keep) (idx := 355) (d' := 2) (c := 12) (n := 0) (k := 0) [] [] (ov := none) (stk2 := []) okp_X12_keep (by decide +kernel) ml_RX12_355 vok_X12_keep (by decide) rfl nar_X12_keep (by decide) rfl (Nat.le_of_ble_eq_true rfl) (ok_X12_keep h11) rfl ?_
      obtain ⟨hg, h⟩ := grd_some h
      obtain ⟨σ13, e14, h⟩ := ltσ_some h
      refine aw_seq [(.aload_n 0, 1, ax0), (.getfield 7, 3, (axF 12 0 (2, 1, 13, some 1986))), (.bipush 8, 2, (axI 8)), (.iload_n 1, 1, ax0), (.iconst 2, 1, (axI 2)), (.imul, 1, ax0), (.sipush 163, 3, (axI 163)), (.iadd, 1, ax0), (.iastore, 1, ax0)] (pc' := 41) (L' := [some (aR 12 0 0), some (aI v1), some (aI v2), none, none]) (stk' := []) (σ' := σ13) (g := [inb 8 1986]) (by decide +kernel) (by rw [e14]; rfl) hg ?_
      refine aw_seq [(.iconst 0, 1, (axI 0)), (.istore_n 3, 1, ax0)] (pc' := 43) (L' := [some (aR 12 0 0), some (aI v1), some (aI v2), some (aI 0), none]) (stk' := []) (σ' := σ13) (g := []) (by decide +kernel) rfl rfl ?_
      refine aw_forget (L' := [some (aR 12 0 0), none, some (aI v2), some (aI 0), none]) (lsub_s (lsub_n (lsub_s (lsub_s (lsub_n (lsub_0)))))) ?_
      exact ok_X12_winters_43 FU v2 0 σ13 _ h
    · rw [if_pos c1] at h
      refine aw_forget (L' := [none, none, none, none, none]) (lsub_n (lsub_n (lsub_n (lsub_n (lsub_n (lsub_0)))))) ?_
      exact ok_X12_winters_21 σ9 _ h
def f_X12_of (v1 : Int32) (v2 : Int32) (σ : Sg) : Option (Int32 × Sg) :=
  bnd (f_X12_isHouse v1 σ) fun r3 σ2 =>
  if r3 = 0 then (
    some ((-1), σ2)
  ) else (
    bnd (f_X12_allOf 3 σ2) fun r6 σ5 =>
    ltσ (wI σ5 0 23 r6) fun σ7 =>
    if v2 = 0 then (
      bnd (f_X12_get v1 3 σ7) fun r11 σ10 =>
      some (r11, σ10)
    ) else (
    if v2 = 1 then (
      bnd (f_X12_get v1 2 σ7) fun r14 σ13 =>
      some (r14, σ13)
    ) else (
    if v2 = 2 then (
      bnd (f_X12_get v1 0 σ7) fun r17 σ16 =>
      some (r17, σ16)
    ) else (
    if v2 = 3 then (
      bnd (f_X12_get v1 1 σ7) fun r20 σ19 =>
      some (r20, σ19)
    ) else (
    if v2 = 4 then (
      grd (inb 2 1986 && true) <|
      bnd (f_X12_coolsOf (σ7.1 1 (ix 2)) v1 σ7) fun r23 σ22 =>
      some (r23, σ22)
    ) else (
    if v2 = 5 then (
      bnd (f_X12_spreadsOf v1 σ7) fun r26 σ25 =>
      some (r26, σ25)
    ) else (
    if v2 = 6 then (
      bnd (f_X12_fineOf v1 σ7) fun r29 σ28 =>
      some (r29, σ28)
    ) else (
    if v2 = 7 then (
      bnd (f_X12_nearOf v1 σ7) fun r32 σ31 =>
      some (r32, σ31)
    ) else (
      some ((-1), σ7)
    ))))))))
  )
set_option maxRecDepth 100000 in
set_option maxHeartbeats 4000000 in
theorem ok_X12_of {κ : Kd} {v1 : Int32} {v2 : Int32} {σ : Sg} {q : (Int32 × Sg)} (h : f_X12_of v1 v2 σ = some q) : AMet κ pX12_of 6 [aR 12 0 0, aI v1, aI v2] σ (some (aI q.1), q.2) := by
  unfold f_X12_of at h
  refine amet_of okp_X12_of [(false, aR 12 0 0), (false, aI v1), (false, aI v2)] (List.forall_mem_cons.mpr ⟨rfl, List.forall_mem_cons.mpr ⟨rfl, List.forall_mem_cons.mpr ⟨rfl, (fun _ hn => absurd hn List.not_mem_nil)⟩⟩⟩) 0 rfl ?_
  show AW κ pX12_of 6 (some (aI q.1), q.2) 0 [some (aR 12 0 0), some (aI v1), some (aI v2)] [] σ
  refine aw_seq [(.aload_n 0, 1, ax0), (.iload_n 1, 1, ax0)] (pc' := 2) (L' := [some (aR 12 0 0), some (aI v1), some (aI v2)]) (stk' := [aI v1, aR 12 0 0]) (σ' := σ) (g := []) (by decide +kernel) rfl rfl ?_
  obtain ⟨r3, σ2, h1, h⟩ := bnd_some h
  refine aw_cV (P' := pX12_isHouse) (idx := 88) (d' := 2) (c := 12) (n := 0) (k := 0) [aI v1] [] (ov := (some (aI r3))) (stk2 := [aI r3]) okp_X12_isHouse (by decide +kernel) ml_RX12_88 vok_X12_isHouse (by decide) rfl nar_X12_isHouse (by decide) rfl (Nat.le_of_ble_eq_true rfl) (ok_X12_isHouse h1) rfl ?_
  refine aw_if_ne (off := 5) (tgt := 10) (by decide +kernel) (by decide) (fun c1 => ?_) (fun c1 => ?_)
  · rw [if_neg c1] at h
    refine aw_seq [(.aload_n 0, 1, ax0), (.aload_n 0, 1, ax0), (.iconst 3, 1, (axI 3))] (pc' := 13) (L' := [some (aR 12 0 0), some (aI v1), some (aI v2)]) (stk' := [aI 3, aR 12 0 0, aR 12 0 0]) (σ' := σ2) (g := []) (by decide +kernel) rfl rfl ?_
    obtain ⟨r6, σ5, h4, h⟩ := bnd_some h
    refine aw_cV (P' := pX12_allOf) (idx := 346) (d' := 2) (c := 12) (n := 0) (k := 0) [aI 3] [aR 12 0 0] (ov := (some (aI r6))) (stk2 := [aI r6, aR 12 0 0]) okp_X12_allOf (by decide +kernel) ml_RX12_346 vok_X12_allOf (by decide) rfl nar_X12_allOf (by decide) rfl (Nat.le_of_ble_eq_true rfl) (ok_X12_allOf h4) rfl ?_
    obtain ⟨σ7, e8, h⟩ := ltσ_some h
    refine aw_seq [(.putfield 297, 3, (axF 12 23 (0, 0, 0, none)))] (pc' := 19) (L' := [some (aR 12 0 0), some (aI v1), some (aI v2)]) (stk' := []) (σ' := σ7) (g := []) (by decide +kernel) (by rw [e8]; rfl) rfl ?_
    refine aw_seq [(.iload_n 2, 1, ax0)] (pc' := 20) (L' := [some (aR 12 0 0), some (aI v1), some (aI v2)]) (stk' := [aI v2]) (σ' := σ7) (g := []) (by decide +kernel) rfl rfl ?_
    refine aw_table (dflt := 106) (lo := 0) (hi := 7) (offs := #[48, 55, 62, 69, 76, 88, 94, 100]) (len := 48) (dt := 126) (by decide +kernel) [(0, 68), (1, 75), (2, 82), (3, 89), (4, 96), (5, 108), (6, 114), (7, 120)] (by decide +kernel) ?_
    refine awsw_cons (fun c1 => ?_) (fun c1 => ?_)
    · rw [if_pos c1] at h
      refine aw_seq [(.aload_n 0, 1, ax0), (.iload_n 1, 1, ax0), (.iconst 3, 1, (axI 3))] (pc' := 71) (L' := [some (aR 12 0 0), some (aI v1), some (aI v2)]) (stk' := [aI 3, aI v1, aR 12 0 0]) (σ' := σ7) (g := []) (by decide +kernel) rfl rfl ?_
      obtain ⟨r11, σ10, h9, h⟩ := bnd_some h
      refine aw_cV (P' := pX12_get) (idx := 77) (d' := 1) (c := 12) (n := 0) (k := 0) [aI v1, aI 3] [] (ov := (some (aI r11))) (stk2 := [aI r11]) okp_X12_get (by decide +kernel) ml_RX12_77 vok_X12_get (by decide) rfl nar_X12_get (by decide) rfl (Nat.le_of_ble_eq_true rfl) (ok_X12_get h9) rfl ?_
      cases h
      exact aw_iret rfl (by decide +kernel)
    rw [if_neg c1] at h
    refine awsw_cons (fun c1 => ?_) (fun c1 => ?_)
    · rw [if_pos c1] at h
      refine aw_seq [(.aload_n 0, 1, ax0), (.iload_n 1, 1, ax0), (.iconst 2, 1, (axI 2))] (pc' := 78) (L' := [some (aR 12 0 0), some (aI v1), some (aI v2)]) (stk' := [aI 2, aI v1, aR 12 0 0]) (σ' := σ7) (g := []) (by decide +kernel) rfl rfl ?_
      obtain ⟨r14, σ13, h12, h⟩ := bnd_some h
      refine aw_cV (P' := pX12_get) (idx := 77) (d' := 1) (c := 12) (n := 0) (k := 0) [aI v1, aI 2] [] (ov := (some (aI r14))) (stk2 := [aI r14]) okp_X12_get (by decide +kernel) ml_RX12_77 vok_X12_get (by decide) rfl nar_X12_get (by decide) rfl (Nat.le_of_ble_eq_true rfl) (ok_X12_get h12) rfl ?_
      cases h
      exact aw_iret rfl (by decide +kernel)
    rw [if_neg c1] at h
    refine awsw_cons (fun c1 => ?_) (fun c1 => ?_)
    · rw [if_pos c1] at h
      refine aw_seq [(.aload_n 0, 1, ax0), (.iload_n 1, 1, ax0), (.iconst 0, 1, (axI 0))] (pc' := 85) (L' := [some (aR 12 0 0), some (aI v1), some (aI v2)]) (stk' := [aI 0, aI v1, aR 12 0 0]) (σ' := σ7) (g := []) (by decide +kernel) rfl rfl ?_
      obtain ⟨r17, σ16, h15, h⟩ := bnd_some h
      refine aw_cV (P' := pX12_get) (idx := 77) (d' := 1) (c := 12) (n := 0) (k := 0) [aI v1, aI 0] [] (ov := (some (aI r17))) (stk2 := [aI r17]) okp_X12_get (by decide +kernel) ml_RX12_77 vok_X12_get (by decide) rfl nar_X12_get (by decide) rfl (Nat.le_of_ble_eq_true rfl) (ok_X12_get h15) rfl ?_
      cases h
      exact aw_iret rfl (by decide +kernel)
    rw [if_neg c1] at h
    refine awsw_cons (fun c1 => ?_) (fun c1 => ?_)
    · rw [if_pos c1] at h
      refine aw_seq [(.aload_n 0, 1, ax0), (.iload_n 1, 1, ax0), (.iconst 1, 1, (axI 1))] (pc' := 92) (L' := [some (aR 12 0 0), some (aI v1), some (aI v2)]) (stk' := [aI 1, aI v1, aR 12 0 0]) (σ' := σ7) (g := []) (by decide +kernel) rfl rfl ?_
      obtain ⟨r20, σ19, h18, h⟩ := bnd_some h
      refine aw_cV (P' := pX12_get) (idx := 77) (d' := 1) (c := 12) (n := 0) (k := 0) [aI v1, aI 1] [] (ov := (some (aI r20))) (stk2 := [aI r20]) okp_X12_get (by decide +kernel) ml_RX12_77 vok_X12_get (by decide) rfl nar_X12_get (by decide) rfl (Nat.le_of_ble_eq_true rfl) (ok_X12_get h18) rfl ?_
      cases h
      exact aw_iret rfl (by decide +kernel)
    rw [if_neg c1] at h
    refine awsw_cons (fun c1 => ?_) (fun c1 => ?_)
    · rw [if_pos c1] at h
      obtain ⟨hg, h⟩ := grd_some h
      refine aw_seq [(.aload_n 0, 1, ax0), (.aload_n 0, 1, ax0), (.getfield 7, 3, (axF 12 0 (2, 1, 13, some 1986))), (.iconst 2, 1, (axI 2)), (.iaload, 1, ax0), (.iload_n 1, 1, ax0)] (pc' := 104) (L' := [some (aR 12 0 0), some (aI v1), some (aI v2)]) (stk' := [aI v1, aI (σ7.1 1 (ix 2)), aR 12 0 0]) (σ' := σ7) (g := [inb 2 1986]) (by decide +kernel) rfl hg ?_
      obtain ⟨r23, σ22, h21, h⟩ := bnd_some h
      refine aw_cV (P' := pX12_coolsOf) (idx := 325) (d' := 5) (c := 12) (n := 0) (k := 0) [aI (σ7.1 1 (ix 2)), aI v1] [] (ov := (some (aI r23))) (stk2 := [aI r23]) okp_X12_coolsOf (by decide +kernel) ml_RX12_325 vok_X12_coolsOf (by decide) rfl nar_X12_coolsOf (by decide) rfl (Nat.le_of_ble_eq_true rfl) (ok_X12_coolsOf h21) rfl ?_
      cases h
      exact aw_iret rfl (by decide +kernel)
    rw [if_neg c1] at h
    refine awsw_cons (fun c1 => ?_) (fun c1 => ?_)
    · rw [if_pos c1] at h
      refine aw_seq [(.aload_n 0, 1, ax0), (.iload_n 1, 1, ax0)] (pc' := 110) (L' := [some (aR 12 0 0), some (aI v1), some (aI v2)]) (stk' := [aI v1, aR 12 0 0]) (σ' := σ7) (g := []) (by decide +kernel) rfl rfl ?_
      obtain ⟨r26, σ25, h24, h⟩ := bnd_some h
      refine aw_cV (P' := pX12_spreadsOf) (idx := 337) (d' := 5) (c := 12) (n := 0) (k := 0) [aI v1] [] (ov := (some (aI r26))) (stk2 := [aI r26]) okp_X12_spreadsOf (by decide +kernel) ml_RX12_337 vok_X12_spreadsOf (by decide) rfl nar_X12_spreadsOf (by decide) rfl (Nat.le_of_ble_eq_true rfl) (ok_X12_spreadsOf h24) rfl ?_
      cases h
      exact aw_iret rfl (by decide +kernel)
    rw [if_neg c1] at h
    refine awsw_cons (fun c1 => ?_) (fun c1 => ?_)
    · rw [if_pos c1] at h
      refine aw_seq [(.aload_n 0, 1, ax0), (.iload_n 1, 1, ax0)] (pc' := 116) (L' := [some (aR 12 0 0), some (aI v1), some (aI v2)]) (stk' := [aI v1, aR 12 0 0]) (σ' := σ7) (g := []) (by decide +kernel) rfl rfl ?_
      obtain ⟨r29, σ28, h27, h⟩ := bnd_some h
      refine aw_cV (P' := pX12_fineOf) (idx := 373) (d' := 5) (c := 12) (n := 0) (k := 0) [aI v1] [] (ov := (some (aI r29))) (stk2 := [aI r29]) okp_X12_fineOf (by decide +kernel) ml_RX12_373 vok_X12_fineOf (by decide) rfl nar_X12_fineOf (by decide) rfl (Nat.le_of_ble_eq_true rfl) (ok_X12_fineOf h27) rfl ?_
      cases h
      exact aw_iret rfl (by decide +kernel)
    rw [if_neg c1] at h
    refine awsw_cons (fun c1 => ?_) (fun c1 => ?_)
    · rw [if_pos c1] at h
      refine aw_seq [(.aload_n 0, 1, ax0), (.iload_n 1, 1, ax0)] (pc' := 122) (L' := [some (aR 12 0 0), some (aI v1), some (aI v2)]) (stk' := [aI v1, aR 12 0 0]) (σ' := σ7) (g := []) (by decide +kernel) rfl rfl ?_
      obtain ⟨r32, σ31, h30, h⟩ := bnd_some h
      refine aw_cV (P' := pX12_nearOf) (idx := 306) (d' := 3) (c := 12) (n := 0) (k := 0) [aI v1] [] (ov := (some (aI r32))) (stk2 := [aI r32]) okp_X12_nearOf (by decide +kernel) ml_RX12_306 vok_X12_nearOf (by decide) rfl nar_X12_nearOf (by decide) rfl (Nat.le_of_ble_eq_true rfl) (ok_X12_nearOf h30) rfl ?_
      cases h
      exact aw_iret rfl (by decide +kernel)
    rw [if_neg c1] at h
    refine awsw_nil ?_
    refine aw_seq [(.iconst (-1), 1, (axI (-1)))] (pc' := 127) (L' := [some (aR 12 0 0), some (aI v1), some (aI v2)]) (stk' := [aI (-1)]) (σ' := σ7) (g := []) (by decide +kernel) rfl rfl ?_
    cases h
    exact aw_iret rfl (by decide +kernel)
  · rw [if_pos c1] at h
    refine aw_seq [(.iconst (-1), 1, (axI (-1)))] (pc' := 9) (L' := [some (aR 12 0 0), some (aI v1), some (aI v2)]) (stk' := [aI (-1)]) (σ' := σ2) (g := []) (by decide +kernel) rfl rfl ?_
    cases h
    exact aw_iret rfl (by decide +kernel)
def f_X12_is_52   (s0 : Int32) (σ : Sg) : Option (Int32 × Sg) :=
  some (s0, σ)
set_option maxRecDepth 100000 in
set_option maxHeartbeats 4000000 in
theorem ok_X12_is_52 {κ : Kd}    : ∀ (s0 : Int32) (σ : Sg) (q : (Int32 × Sg)), f_X12_is_52 s0 σ = some q → AW κ pX12_is 2 (some (aI q.1), q.2) 52 [none, none] [aI s0] σ := by
  intro s0 σ q h
  unfold f_X12_is_52 at h
  cases h
  exact aw_iret rfl (by decide +kernel)
def f_X12_is (v1 : Int32) (σ : Sg) : Option (Int32 × Sg) :=
  if v1 = 0 then (
    grd (inb 6 1986 && true) <|
    some ((σ.1 1 (ix 6)), σ)
  ) else (
  if v1 = 1 then (
    bnd (f_X12_isBell σ) fun r3 σ2 =>
    if r3 = 0 then (
      f_X12_is_52 0 σ2
    ) else (
      f_X12_is_52 1 σ2
    )
  ) else (
  if v1 = 2 then (
    grd (inb 7 1986 && true) <|
    some ((σ.1 1 (ix 7)), σ)
  ) else (
  if v1 = 3 then (
    grd (inb 8 1986 && true) <|
    some ((σ.1 1 (ix 8)), σ)
  ) else (
    some ((-2), σ)
  ))))
set_option maxRecDepth 100000 in
set_option maxHeartbeats 4000000 in
theorem ok_X12_is {κ : Kd} {v1 : Int32} {σ : Sg} {q : (Int32 × Sg)} (h : f_X12_is v1 σ = some q) : AMet κ pX12_is 2 [aR 12 0 0, aI v1] σ (some (aI q.1), q.2) := by
  unfold f_X12_is at h
  refine amet_of okp_X12_is [(false, aR 12 0 0), (false, aI v1)] (List.forall_mem_cons.mpr ⟨rfl, List.forall_mem_cons.mpr ⟨rfl, (fun _ hn => absurd hn List.not_mem_nil)⟩⟩) 0 rfl ?_
  show AW κ pX12_is 2 (some (aI q.1), q.2) 0 [some (aR 12 0 0), some (aI v1)] [] σ
  refine aw_seq [(.iload_n 1, 1, ax0)] (pc' := 1) (L' := [some (aR 12 0 0), some (aI v1)]) (stk' := [aI v1]) (σ' := σ) (g := []) (by decide +kernel) rfl rfl ?_
  refine aw_table (dflt := 68) (lo := 0) (hi := 3) (offs := #[31, 39, 52, 60]) (len := 31) (dt := 69) (by decide +kernel) [(0, 32), (1, 40), (2, 53), (3, 61)] (by decide +kernel) ?_
  refine awsw_cons (fun c1 => ?_) (fun c1 => ?_)
  · rw [if_pos c1] at h
    obtain ⟨hg, h⟩ := grd_some h
    refine aw_seq [(.aload_n 0, 1, ax0), (.getfield 7, 3, (axF 12 0 (2, 1, 13, some 1986))), (.bipush 6, 2, (axI 6)), (.iaload, 1, ax0)] (pc' := 39) (L' := [some (aR 12 0 0), some (aI v1)]) (stk' := [aI (σ.1 1 (ix 6))]) (σ' := σ) (g := [inb 6 1986]) (by decide +kernel) rfl hg ?_
    cases h
    exact aw_iret rfl (by decide +kernel)
  rw [if_neg c1] at h
  refine awsw_cons (fun c1 => ?_) (fun c1 => ?_)
  · rw [if_pos c1] at h
    refine aw_seq [(.aload_n 0, 1, ax0)] (pc' := 41) (L' := [some (aR 12 0 0), some (aI v1)]) (stk' := [aR 12 0 0]) (σ' := σ) (g := []) (by decide +kernel) rfl rfl ?_
    obtain ⟨r3, σ2, h1, h⟩ := bnd_some h
    refine aw_cV (P' := pX12_isBell) (idx := 303) (d' := 1) (c := 12) (n := 0) (k := 0) [] [] (ov := (some (aI r3))) (stk2 := [aI r3]) okp_X12_isBell (by decide +kernel) ml_RX12_303 vok_X12_isBell (by decide) rfl nar_X12_isBell (by decide) rfl (Nat.le_of_ble_eq_true rfl) (ok_X12_isBell h1) rfl ?_
    refine aw_if_eq (off := 7) (tgt := 51) (by decide +kernel) (by decide) (fun c1 => ?_) (fun c1 => ?_)
    · rw [if_pos c1] at h
      refine aw_seq [(.iconst 0, 1, (axI 0))] (pc' := 52) (L' := [some (aR 12 0 0), some (aI v1)]) (stk' := [aI 0]) (σ' := σ2) (g := []) (by decide +kernel) rfl rfl ?_
      refine aw_forget (L' := [none, none]) (lsub_n (lsub_n (lsub_0))) ?_
      exact ok_X12_is_52 0 σ2 _ h
    · rw [if_neg c1] at h
      refine aw_seq [(.iconst 1, 1, (axI 1))] (pc' := 48) (L' := [some (aR 12 0 0), some (aI v1)]) (stk' := [aI 1]) (σ' := σ2) (g := []) (by decide +kernel) rfl rfl ?_
      refine aw_goto (off := 4) (tgt := 52) (by decide +kernel) (by decide) ?_
      refine aw_forget (L' := [none, none]) (lsub_n (lsub_n (lsub_0))) ?_
      exact ok_X12_is_52 1 σ2 _ h
  rw [if_neg c1] at h
  refine awsw_cons (fun c1 => ?_) (fun c1 => ?_)
  · rw [if_pos c1] at h
    obtain ⟨hg, h⟩ := grd_some h
    refine aw_seq [(.aload_n 0, 1, ax0), (.getfield 7, 3, (axF 12 0 (2, 1, 13, some 1986))), (.bipush 7, 2, (axI 7)), (.iaload, 1, ax0)] (pc' := 60) (L' := [some (aR 12 0 0), some (aI v1)]) (stk' := [aI (σ.1 1 (ix 7))]) (σ' := σ) (g := [inb 7 1986]) (by decide +kernel) rfl hg ?_
    cases h
    exact aw_iret rfl (by decide +kernel)
  rw [if_neg c1] at h
  refine awsw_cons (fun c1 => ?_) (fun c1 => ?_)
  · rw [if_pos c1] at h
    obtain ⟨hg, h⟩ := grd_some h
    refine aw_seq [(.aload_n 0, 1, ax0), (.getfield 7, 3, (axF 12 0 (2, 1, 13, some 1986))), (.bipush 8, 2, (axI 8)), (.iaload, 1, ax0)] (pc' := 68) (L' := [some (aR 12 0 0), some (aI v1)]) (stk' := [aI (σ.1 1 (ix 8))]) (σ' := σ) (g := [inb 8 1986]) (by decide +kernel) rfl hg ?_
    cases h
    exact aw_iret rfl (by decide +kernel)
  rw [if_neg c1] at h
  refine awsw_nil ?_
  refine aw_seq [(.bipush (-2), 2, (axI (-2)))] (pc' := 71) (L' := [some (aR 12 0 0), some (aI v1)]) (stk' := [aI (-2)]) (σ' := σ) (g := []) (by decide +kernel) rfl rfl ?_
  cases h
  exact aw_iret rfl (by decide +kernel)
def f_X12_entry_57   (s0 : Int32) (σ : Sg) : Option (Int32 × Sg) :=
  some (s0, σ)
set_option maxRecDepth 100000 in
set_option maxHeartbeats 4000000 in
theorem ok_X12_entry_57 {κ : Kd}    : ∀ (s0 : Int32) (σ : Sg) (q : (Int32 × Sg)), f_X12_entry_57 s0 σ = some q → AW κ pX12_entry 1 (some (aI q.1), q.2) 57 [none, none, none] [aI s0] σ := by
  intro s0 σ q h
  unfold f_X12_entry_57 at h
  cases h
  exact aw_iret rfl (by decide +kernel)
def f_X12_entry (v1 : Int32) (v2 : Int32) (σ : Sg) : Option (Int32 × Sg) :=
  if v2 = 0 then (
    grd (inb (1956 + v1) 1986 && ((!decide ((64 : Int32) = 0)) && true)) <|
    f_X12_entry_57 ((σ.1 1 (ix (1956 + v1))) / 64) σ
  ) else (
    if v2 = 1 then (
      grd (inb (1956 + v1) 1986 && ((!decide ((8 : Int32) = 0)) && ((!decide ((8 : Int32) = 0)) && true))) <|
      f_X12_entry_57 (jrem ((σ.1 1 (ix (1956 + v1))) / 8) 8) σ
    ) else (
      grd (inb (1956 + v1) 1986 && ((!decide ((8 : Int32) = 0)) && true)) <|
      f_X12_entry_57 (jrem (σ.1 1 (ix (1956 + v1))) 8) σ
    )
  )
set_option maxRecDepth 100000 in
set_option maxHeartbeats 4000000 in
theorem ok_X12_entry {κ : Kd} {v1 : Int32} {v2 : Int32} {σ : Sg} {q : (Int32 × Sg)} (h : f_X12_entry v1 v2 σ = some q) : AMet κ pX12_entry 1 [aR 12 0 0, aI v1, aI v2] σ (some (aI q.1), q.2) := by
  unfold f_X12_entry at h
  refine amet_of okp_X12_entry [(false, aR 12 0 0), (false, aI v1), (false, aI v2)] (List.forall_mem_cons.mpr ⟨rfl, List.forall_mem_cons.mpr ⟨rfl, List.forall_mem_cons.mpr ⟨rfl, (fun _ hn => absurd hn List.not_mem_nil)⟩⟩⟩) 0 rfl ?_
  show AW κ pX12_entry 1 (some (aI q.1), q.2) 0 [some (aR 12 0 0), some (aI v1), some (aI v2)] [] σ
  refine aw_seq [(.iload_n 2, 1, ax0)] (pc' := 1) (L' := [some (aR 12 0 0), some (aI v1), some (aI v2)]) (stk' := [aI v2]) (σ' := σ) (g := []) (by decide +kernel) rfl rfl ?_
  refine aw_if_ne (off := 19) (tgt := 20) (by decide +kernel) (by decide) (fun c1 => ?_) (fun c1 => ?_)
  · rw [if_neg c1] at h
    refine aw_seq [(.iload_n 2, 1, ax0), (.iconst 1, 1, (axI 1))] (pc' := 22) (L' := [some (aR 12 0 0), some (aI v1), some (aI v2)]) (stk' := [aI 1, aI v2]) (σ' := σ) (g := []) (by decide +kernel) rfl rfl ?_
    refine aw_icmp_ne (off := 22) (tgt := 44) (by decide +kernel) (by decide) (fun c1 => ?_) (fun c1 => ?_)
    · rw [if_neg c1] at h
      obtain ⟨hg, h⟩ := grd_some h
      refine aw_seq [(.aload_n 0, 1, ax0), (.getfield 7, 3, (axF 12 0 (2, 1, 13, some 1986))), (.sipush 1956, 3, (axI 1956)), (.iload_n 1, 1, ax0), (.iadd, 1, ax0), (.iaload, 1, ax0), (.bipush 8, 2, (axI 8)), (.irem, 1, ax0)] (pc' := 57) (L' := [some (aR 12 0 0), some (aI v1), some (aI v2)]) (stk' := [aI (jrem (σ.1 1 (ix (1956 + v1))) 8)]) (σ' := σ) (g := [inb (1956 + v1) 1986, (!decide ((8 : Int32) = 0))]) (by decide +kernel) rfl hg ?_
      refine aw_forget (L' := [none, none, none]) (lsub_n (lsub_n (lsub_n (lsub_0)))) ?_
      exact ok_X12_entry_57 (jrem (σ.1 1 (ix (1956 + v1))) 8) σ _ h
    · rw [if_pos c1] at h
      obtain ⟨hg, h⟩ := grd_some h
      refine aw_seq [(.aload_n 0, 1, ax0), (.getfield 7, 3, (axF 12 0 (2, 1, 13, some 1986))), (.sipush 1956, 3, (axI 1956)), (.iload_n 1, 1, ax0), (.iadd, 1, ax0), (.iaload, 1, ax0), (.bipush 8, 2, (axI 8)), (.idiv, 1, ax0), (.bipush 8, 2, (axI 8)), (.irem, 1, ax0)] (pc' := 41) (L' := [some (aR 12 0 0), some (aI v1), some (aI v2)]) (stk' := [aI (jrem ((σ.1 1 (ix (1956 + v1))) / 8) 8)]) (σ' := σ) (g := [inb (1956 + v1) 1986, (!decide ((8 : Int32) = 0)), (!decide ((8 : Int32) = 0))]) (by decide +kernel) rfl hg ?_
      refine aw_goto (off := 16) (tgt := 57) (by decide +kernel) (by decide) ?_
      refine aw_forget (L' := [none, none, none]) (lsub_n (lsub_n (lsub_n (lsub_0)))) ?_
      exact ok_X12_entry_57 (jrem ((σ.1 1 (ix (1956 + v1))) / 8) 8) σ _ h
  · rw [if_pos c1] at h
    obtain ⟨hg, h⟩ := grd_some h
    refine aw_seq [(.aload_n 0, 1, ax0), (.getfield 7, 3, (axF 12 0 (2, 1, 13, some 1986))), (.sipush 1956, 3, (axI 1956)), (.iload_n 1, 1, ax0), (.iadd, 1, ax0), (.iaload, 1, ax0), (.bipush 64, 2, (axI 64)), (.idiv, 1, ax0)] (pc' := 17) (L' := [some (aR 12 0 0), some (aI v1), some (aI v2)]) (stk' := [aI ((σ.1 1 (ix (1956 + v1))) / 64)]) (σ' := σ) (g := [inb (1956 + v1) 1986, (!decide ((64 : Int32) = 0))]) (by decide +kernel) rfl hg ?_
    refine aw_goto (off := 40) (tgt := 57) (by decide +kernel) (by decide) ?_
    refine aw_forget (L' := [none, none, none]) (lsub_n (lsub_n (lsub_n (lsub_0)))) ?_
    exact ok_X12_entry_57 ((σ.1 1 (ix (1956 + v1))) / 64) σ _ h
def f_X12_book_50   (s0 : Int32) (σ : Sg) : Option (Int32 × Sg) :=
  some (s0, σ)
set_option maxRecDepth 100000 in
set_option maxHeartbeats 4000000 in
theorem ok_X12_book_50 {κ : Kd}    : ∀ (s0 : Int32) (σ : Sg) (q : (Int32 × Sg)), f_X12_book_50 s0 σ = some q → AW κ pX12_book 2 (some (aI q.1), q.2) 50 [none, none, none] [aI s0] σ := by
  intro s0 σ q h
  unfold f_X12_book_50 at h
  cases h
  exact aw_iret rfl (by decide +kernel)
def f_X12_book_48    (σ : Sg) : Option (Int32 × Sg) :=
  f_X12_book_50 (-2) σ
set_option maxRecDepth 100000 in
set_option maxHeartbeats 4000000 in
theorem ok_X12_book_48 {κ : Kd}    : ∀  (σ : Sg) (q : (Int32 × Sg)), f_X12_book_48  σ = some q → AW κ pX12_book 2 (some (aI q.1), q.2) 48 [none, none, none] [] σ := by
  intro  σ q h
  unfold f_X12_book_48 at h
  refine aw_seq [(.bipush (-2), 2, (axI (-2)))] (pc' := 50) (L' := [none, none, none]) (stk' := [aI (-2)]) (σ' := σ) (g := []) (by decide +kernel) rfl rfl ?_
  refine aw_forget (L' := [none, none, none]) (lsub_n (lsub_n (lsub_n (lsub_0)))) ?_
  exact ok_X12_book_50 (-2) σ _ h
def f_X12_book (v1 : Int32) (v2 : Int32) (σ : Sg) : Option (Int32 × Sg) :=
  if v1 = (-1) then (
    grd (inb 9 1986 && true) <|
    some ((σ.1 1 (ix 9)), σ)
  ) else (
    grd (inb 9 1986 && true) <|
    bnd (f_X12_isIn v1 0 ((σ.1 1 (ix 9)) - 1) σ) fun r3 σ2 =>
    if r3 = 0 then (
      f_X12_book_48 σ2
    ) else (
      bnd (f_X12_isIn v2 0 2 σ2) fun r6 σ5 =>
      if r6 = 0 then (
        f_X12_book_48 σ5
      ) else (
        bnd (f_X12_entry v1 v2 σ5) fun r9 σ8 =>
        f_X12_book_50 r9 σ8
      )
    )
  )
set_option maxRecDepth 100000 in
set_option maxHeartbeats 4000000 in
theorem ok_X12_book {κ : Kd} {v1 : Int32} {v2 : Int32} {σ : Sg} {q : (Int32 × Sg)} (h : f_X12_book v1 v2 σ = some q) : AMet κ pX12_book 2 [aR 12 0 0, aI v1, aI v2] σ (some (aI q.1), q.2) := by
  unfold f_X12_book at h
  refine amet_of okp_X12_book [(false, aR 12 0 0), (false, aI v1), (false, aI v2)] (List.forall_mem_cons.mpr ⟨rfl, List.forall_mem_cons.mpr ⟨rfl, List.forall_mem_cons.mpr ⟨rfl, (fun _ hn => absurd hn List.not_mem_nil)⟩⟩⟩) 0 rfl ?_
  show AW κ pX12_book 2 (some (aI q.1), q.2) 0 [some (aR 12 0 0), some (aI v1), some (aI v2)] [] σ
  refine aw_seq [(.iload_n 1, 1, ax0), (.iconst (-1), 1, (axI (-1)))] (pc' := 2) (L' := [some (aR 12 0 0), some (aI v1), some (aI v2)]) (stk' := [aI (-1), aI v1]) (σ' := σ) (g := []) (by decide +kernel) rfl rfl ?_
  refine aw_icmp_ne (off := 11) (tgt := 13) (by decide +kernel) (by decide) (fun c1 => ?_) (fun c1 => ?_)
  · rw [if_neg c1] at h
    obtain ⟨hg, h⟩ := grd_some h
    refine aw_seq [(.iload_n 1, 1, ax0), (.iconst 0, 1, (axI 0)), (.aload_n 0, 1, ax0), (.getfield 7, 3, (axF 12 0 (2, 1, 13, some 1986))), (.bipush 9, 2, (axI 9)), (.iaload, 1, ax0), (.iconst 1, 1, (axI 1)), (.isub, 1, ax0)] (pc' := 24) (L' := [some (aR 12 0 0), some (aI v1), some (aI v2)]) (stk' := [aI ((σ.1 1 (ix 9)) - 1), aI 0, aI v1]) (σ' := σ) (g := [inb 9 1986]) (by decide +kernel) rfl hg ?_
    obtain ⟨r3, σ2, h1, h⟩ := bnd_some h
    refine aw_cS (P' := pX12_isIn) (idx := 69) (d' := 1) [aI v1, aI 0, aI ((σ.1 1 (ix 9)) - 1)] [] (ov := (some (aI r3))) (stk2 := [aI r3]) okp_X12_isIn (by decide +kernel) ml_RX12_69 tok_X12_isIn nar_X12_isIn (by decide) rfl (Nat.le_of_ble_eq_true rfl) (ok_X12_isIn h1) rfl ?_
    refine aw_if_eq (off := 21) (tgt := 48) (by decide +kernel) (by decide) (fun c1 => ?_) (fun c1 => ?_)
    · rw [if_pos c1] at h
      refine aw_forget (L' := [none, none, none]) (lsub_n (lsub_n (lsub_n (lsub_0)))) ?_
      exact ok_X12_book_48 σ2 _ h
    · rw [if_neg c1] at h
      refine aw_seq [(.iload_n 2, 1, ax0), (.iconst 0, 1, (axI 0)), (.iconst 2, 1, (axI 2))] (pc' := 33) (L' := [some (aR 12 0 0), some (aI v1), some (aI v2)]) (stk' := [aI 2, aI 0, aI v2]) (σ' := σ2) (g := []) (by decide +kernel) rfl rfl ?_
      obtain ⟨r6, σ5, h4, h⟩ := bnd_some h
      refine aw_cS (P' := pX12_isIn) (idx := 69) (d' := 1) [aI v2, aI 0, aI 2] [] (ov := (some (aI r6))) (stk2 := [aI r6]) okp_X12_isIn (by decide +kernel) ml_RX12_69 tok_X12_isIn nar_X12_isIn (by decide) rfl (Nat.le_of_ble_eq_true rfl) (ok_X12_isIn h4) rfl ?_
      refine aw_if_eq (off := 12) (tgt := 48) (by decide +kernel) (by decide) (fun c1 => ?_) (fun c1 => ?_)
      · rw [if_pos c1] at h
        refine aw_forget (L' := [none, none, none]) (lsub_n (lsub_n (lsub_n (lsub_0)))) ?_
        exact ok_X12_book_48 σ5 _ h
      · rw [if_neg c1] at h
        refine aw_seq [(.aload_n 0, 1, ax0), (.iload_n 1, 1, ax0), (.iload_n 2, 1, ax0)] (pc' := 42) (L' := [some (aR 12 0 0), some (aI v1), some (aI v2)]) (stk' := [aI v2, aI v1, aR 12 0 0]) (σ' := σ5) (g := []) (by decide +kernel) rfl rfl ?_
        obtain ⟨r9, σ8, h7, h⟩ := bnd_some h
        refine aw_cV (P' := pX12_entry) (idx := 415) (d' := 1) (c := 12) (n := 0) (k := 0) [aI v1, aI v2] [] (ov := (some (aI r9))) (stk2 := [aI r9]) okp_X12_entry (by decide +kernel) ml_RX12_415 vok_X12_entry (by decide) rfl nar_X12_entry (by decide) rfl (Nat.le_of_ble_eq_true rfl) (ok_X12_entry h7) rfl ?_
        refine aw_goto (off := 5) (tgt := 50) (by decide +kernel) (by decide) ?_
        refine aw_forget (L' := [none, none, none]) (lsub_n (lsub_n (lsub_n (lsub_0)))) ?_
        exact ok_X12_book_50 r9 σ8 _ h
  · rw [if_pos c1] at h
    obtain ⟨hg, h⟩ := grd_some h
    refine aw_seq [(.aload_n 0, 1, ax0), (.getfield 7, 3, (axF 12 0 (2, 1, 13, some 1986))), (.bipush 9, 2, (axI 9)), (.iaload, 1, ax0)] (pc' := 12) (L' := [some (aR 12 0 0), some (aI v1), some (aI v2)]) (stk' := [aI (σ.1 1 (ix 9))]) (σ' := σ) (g := [inb 9 1986]) (by decide +kernel) rfl hg ?_
    cases h
    exact aw_iret rfl (by decide +kernel)
def f_X12_befell_22    (σ : Sg) : Option (Int32 × Sg) :=
  some ((-2), σ)
set_option maxRecDepth 100000 in
set_option maxHeartbeats 4000000 in
theorem ok_X12_befell_22 {κ : Kd}    : ∀  (σ : Sg) (q : (Int32 × Sg)), f_X12_befell_22  σ = some q → AW κ pX12_befell 3 (some (aI q.1), q.2) 22 [none, none, none, none, none] [] σ := by
  intro  σ q h
  unfold f_X12_befell_22 at h
  refine aw_seq [(.bipush (-2), 2, (axI (-2)))] (pc' := 24) (L' := [none, none, none, none, none]) (stk' := [aI (-2)]) (σ' := σ) (g := []) (by decide +kernel) rfl rfl ?_
  cases h
  exact aw_iret rfl (by decide +kernel)
def f_X12_befell_75  (rec_30 : Int32 → Int32 → Int32 → Int32 → Sg → Option (Int32 × Sg)) (v1 : Int32) (v2 : Int32) (v4 : Int32) (s0 : Int32) (s1 : Int32) (σ : Sg) : Option (Int32 × Sg) :=
  rec_30 v1 v2 (s0 + s1) (v4 + 1) σ
set_option maxRecDepth 100000 in
set_option maxHeartbeats 4000000 in
theorem ok_X12_befell_75 {κ : Kd}   {rec_30 : Int32 → Int32 → Int32 → Int32 → Sg → Option (Int32 × Sg)} (hrec_30 : ∀ (v1 : Int32) (v2 : Int32) (v3 : Int32) (v4 : Int32) (σ : Sg) (q : (Int32 × Sg)), rec_30 v1 v2 v3 v4 σ = some q → AW κ pX12_befell 3 (some (aI q.1), q.2) 30 [some (aR 12 0 0), some (aI v1), some (aI v2), some (aI v3), some (aI v4)] [] σ) : ∀ (v1 : Int32) (v2 : Int32) (v4 : Int32) (s0 : Int32) (s1 : Int32) (σ : Sg) (q : (Int32 × Sg)), f_X12_befell_75 rec_30 v1 v2 v4 s0 s1 σ = some q → AW κ pX12_befell 3 (some (aI q.1), q.2) 75 [some (aR 12 0 0), some (aI v1), some (aI v2), none, some (aI v4)] [aI s1, aI s0] σ := by
  intro v1 v2 v4 s0 s1 σ q h
  unfold f_X12_befell_75 at h
  refine aw_seq [(.iadd, 1, ax0), (.istore_n 3, 1, ax0), (.iinc 4 1, 3, (axI 1))] (pc' := 80) (L' := [some (aR 12 0 0), some (aI v1), some (aI v2), some (aI (s0 + s1)), some (aI (v4 + 1))]) (stk' := []) (σ' := σ) (g := []) (by decide +kernel) rfl rfl ?_
  refine aw_goto (off := (-50)) (tgt := 30) (by decide +kernel) (by decide) ?_
  refine aw_forget (L' := [some (aR 12 0 0), some (aI v1), some (aI v2), some (aI (s0 + s1)), some (aI (v4 + 1))]) (lsub_s (lsub_s (lsub_s (lsub_s (lsub_s (lsub_0)))))) ?_
  exact hrec_30 v1 v2 (s0 + s1) (v4 + 1) σ _ h
def f_X12_befell_70  (rec_30 : Int32 → Int32 → Int32 → Int32 → Sg → Option (Int32 × Sg)) (v1 : Int32) (v2 : Int32) (v4 : Int32) (s0 : Int32) (σ : Sg) : Option (Int32 × Sg) :=
  f_X12_befell_75 rec_30 v1 v2 v4 s0 1 σ
set_option maxRecDepth 100000 in
set_option maxHeartbeats 4000000 in
theorem ok_X12_befell_70 {κ : Kd}   {rec_30 : Int32 → Int32 → Int32 → Int32 → Sg → Option (Int32 × Sg)} (hrec_30 : ∀ (v1 : Int32) (v2 : Int32) (v3 : Int32) (v4 : Int32) (σ : Sg) (q : (Int32 × Sg)), rec_30 v1 v2 v3 v4 σ = some q → AW κ pX12_befell 3 (some (aI q.1), q.2) 30 [some (aR 12 0 0), some (aI v1), some (aI v2), some (aI v3), some (aI v4)] [] σ) : ∀ (v1 : Int32) (v2 : Int32) (v4 : Int32) (s0 : Int32) (σ : Sg) (q : (Int32 × Sg)), f_X12_befell_70 rec_30 v1 v2 v4 s0 σ = some q → AW κ pX12_befell 3 (some (aI q.1), q.2) 70 [some (aR 12 0 0), some (aI v1), some (aI v2), none, some (aI v4)] [aI s0] σ := by
  intro v1 v2 v4 s0 σ q h
  unfold f_X12_befell_70 at h
  refine aw_seq [(.iconst 1, 1, (axI 1))] (pc' := 71) (L' := [some (aR 12 0 0), some (aI v1), some (aI v2), none, some (aI v4)]) (stk' := [aI 1, aI s0]) (σ' := σ) (g := []) (by decide +kernel) rfl rfl ?_
  refine aw_goto (off := 4) (tgt := 75) (by decide +kernel) (by decide) ?_
  refine aw_forget (L' := [some (aR 12 0 0), some (aI v1), some (aI v2), none, some (aI v4)]) (lsub_s (lsub_s (lsub_s (lsub_n (lsub_s (lsub_0)))))) ?_
  exact ok_X12_befell_75 hrec_30 v1 v2 v4 s0 1 σ _ h
def f_X12_befell_74  (rec_30 : Int32 → Int32 → Int32 → Int32 → Sg → Option (Int32 × Sg)) (v1 : Int32) (v2 : Int32) (v4 : Int32) (s0 : Int32) (σ : Sg) : Option (Int32 × Sg) :=
  f_X12_befell_75 rec_30 v1 v2 v4 s0 0 σ
set_option maxRecDepth 100000 in
set_option maxHeartbeats 4000000 in
theorem ok_X12_befell_74 {κ : Kd}   {rec_30 : Int32 → Int32 → Int32 → Int32 → Sg → Option (Int32 × Sg)} (hrec_30 : ∀ (v1 : Int32) (v2 : Int32) (v3 : Int32) (v4 : Int32) (σ : Sg) (q : (Int32 × Sg)), rec_30 v1 v2 v3 v4 σ = some q → AW κ pX12_befell 3 (some (aI q.1), q.2) 30 [some (aR 12 0 0), some (aI v1), some (aI v2), some (aI v3), some (aI v4)] [] σ) : ∀ (v1 : Int32) (v2 : Int32) (v4 : Int32) (s0 : Int32) (σ : Sg) (q : (Int32 × Sg)), f_X12_befell_74 rec_30 v1 v2 v4 s0 σ = some q → AW κ pX12_befell 3 (some (aI q.1), q.2) 74 [some (aR 12 0 0), some (aI v1), some (aI v2), none, some (aI v4)] [aI s0] σ := by
  intro v1 v2 v4 s0 σ q h
  unfold f_X12_befell_74 at h
  refine aw_seq [(.iconst 0, 1, (axI 0))] (pc' := 75) (L' := [some (aR 12 0 0), some (aI v1), some (aI v2), none, some (aI v4)]) (stk' := [aI 0, aI s0]) (σ' := σ) (g := []) (by decide +kernel) rfl rfl ?_
  refine aw_forget (L' := [some (aR 12 0 0), some (aI v1), some (aI v2), none, some (aI v4)]) (lsub_s (lsub_s (lsub_s (lsub_n (lsub_s (lsub_0)))))) ?_
  exact ok_X12_befell_75 hrec_30 v1 v2 v4 s0 0 σ _ h
def f_X12_befell_30   : Nat → Int32 → Int32 → Int32 → Int32 → Sg → Option (Int32 × Sg)
  | 0, _, _, _, _, _ => none
  | fu + 1, v1, v2, v3, v4, σ =>
    grd (inb 9 1986 && true) <|
    if (σ.1 1 (ix 9)) ≤ v4 then (
      some (v3, σ)
    ) else (
      bnd (f_X12_entry v4 2 σ) fun r3 σ2 =>
      if r3 = v2 then (
        if v1 = (-1) then (
          f_X12_befell_70 (f_X12_befell_30 fu) v1 v2 v4 v3 σ2
        ) else (
          bnd (f_X12_entry v4 1 σ2) fun r6 σ5 =>
          if r6 = v1 then (
            f_X12_befell_70 (f_X12_befell_30 fu) v1 v2 v4 v3 σ5
          ) else (
            f_X12_befell_74 (f_X12_befell_30 fu) v1 v2 v4 v3 σ5
          )
        )
      ) else (
        f_X12_befell_74 (f_X12_befell_30 fu) v1 v2 v4 v3 σ2
      )
    )
set_option maxRecDepth 100000 in
set_option maxHeartbeats 4000000 in
theorem ok_X12_befell_30 {κ : Kd}    : ∀ (fu : Nat) (v1 : Int32) (v2 : Int32) (v3 : Int32) (v4 : Int32) (σ : Sg) (q : (Int32 × Sg)), f_X12_befell_30 fu v1 v2 v3 v4 σ = some q → AW κ pX12_befell 3 (some (aI q.1), q.2) 30 [some (aR 12 0 0), some (aI v1), some (aI v2), some (aI v3), some (aI v4)] [] σ := by
  intro fu
  induction fu with
  | zero =>
    intro v1 v2 v3 v4 σ q h
    unfold f_X12_befell_30 at h
    cases h
  | succ fu ih =>
    intro v1 v2 v3 v4 σ q h
    unfold f_X12_befell_30 at h
    obtain ⟨hg, h⟩ := grd_some h
    refine aw_seq [(.iload 4, 2, ax0), (.aload_n 0, 1, ax0), (.getfield 7, 3, (axF 12 0 (2, 1, 13, some 1986))), (.bipush 9, 2, (axI 9)), (.iaload, 1, ax0)] (pc' := 39) (L' := [some (aR 12 0 0), some (aI v1), some (aI v2), some (aI v3), some (aI v4)]) (stk' := [aI (σ.1 1 (ix 9)), aI v4]) (σ' := σ) (g := [inb 9 1986]) (by decide +kernel) rfl hg ?_
    refine aw_icmp_ge (off := 44) (tgt := 83) (by decide +kernel) (by decide) (fun c1 => ?_) (fun c1 => ?_)
    · rw [if_pos c1] at h
      refine aw_seq [(.iload_n 3, 1, ax0)] (pc' := 84) (L' := [some (aR 12 0 0), some (aI v1), some (aI v2), some (aI v3), some (aI v4)]) (stk' := [aI v3]) (σ' := σ) (g := []) (by decide +kernel) rfl rfl ?_
      cases h
      exact aw_iret rfl (by decide +kernel)
    · rw [if_neg c1] at h
      refine aw_seq [(.iload_n 3, 1, ax0), (.aload_n 0, 1, ax0), (.iload 4, 2, ax0), (.iconst 2, 1, (axI 2))] (pc' := 47) (L' := [some (aR 12 0 0), some (aI v1), some (aI v2), some (aI v3), some (aI v4)]) (stk' := [aI 2, aI v4, aR 12 0 0, aI v3]) (σ' := σ) (g := []) (by decide +kernel) rfl rfl ?_
      obtain ⟨r3, σ2, h1, h⟩ := bnd_some h
      refine aw_cV (P' := pX12_entry) (idx := 415) (d' := 1) (c := 12) (n := 0) (k := 0) [aI v4, aI 2] [aI v3] (ov := (some (aI r3))) (stk2 := [aI r3, aI v3]) okp_X12_entry (by decide +kernel) ml_RX12_415 vok_X12_entry (by decide) rfl nar_X12_entry (by decide) rfl (Nat.le_of_ble_eq_true rfl) (ok_X12_entry h1) rfl ?_
      refine aw_seq [(.iload_n 2, 1, ax0)] (pc' := 51) (L' := [some (aR 12 0 0), some (aI v1), some (aI v2), some (aI v3), some (aI v4)]) (stk' := [aI v2, aI r3, aI v3]) (σ' := σ2) (g := []) (by decide +kernel) rfl rfl ?_
      refine aw_icmp_ne (off := 23) (tgt := 74) (by decide +kernel) (by decide) (fun c1 => ?_) (fun c1 => ?_)
      · rw [if_neg c1] at h
        refine aw_forget (L' := [some (aR 12 0 0), some (aI v1), some (aI v2), none, some (aI v4)]) (lsub_s (lsub_s (lsub_s (lsub_n (lsub_s (lsub_0)))))) ?_
        exact ok_X12_befell_74 ih v1 v2 v4 v3 σ2 _ h
      · rw [if_pos c1] at h
        refine aw_seq [(.iload_n 1, 1, ax0), (.iconst (-1), 1, (axI (-1)))] (pc' := 56) (L' := [some (aR 12 0 0), some (aI v1), some (aI v2), some (aI v3), some (aI v4)]) (stk' := [aI (-1), aI v1, aI v3]) (σ' := σ2) (g := []) (by decide +kernel) rfl rfl ?_
        refine aw_icmp_eq (off := 14) (tgt := 70) (by decide +kernel) (by decide) (fun c1 => ?_) (fun c1 => ?_)
        · rw [if_pos c1] at h
          refine aw_forget (L' := [some (aR 12 0 0), some (aI v1), some (aI v2), none, some (aI v4)]) (lsub_s (lsub_s (lsub_s (lsub_n (lsub_s (lsub_0)))))) ?_
          exact ok_X12_befell_70 ih v1 v2 v4 v3 σ2 _ h
        · rw [if_neg c1] at h
          refine aw_seq [(.aload_n 0, 1, ax0), (.iload 4, 2, ax0), (.iconst 1, 1, (axI 1))] (pc' := 63) (L' := [some (aR 12 0 0), some (aI v1), some (aI v2), some (aI v3), some (aI v4)]) (stk' := [aI 1, aI v4, aR 12 0 0, aI v3]) (σ' := σ2) (g := []) (by decide +kernel) rfl rfl ?_
          obtain ⟨r6, σ5, h4, h⟩ := bnd_some h
          refine aw_cV (P' := pX12_entry) (idx := 415) (d' := 1) (c := 12) (n := 0) (k := 0) [aI v4, aI 1] [aI v3] (ov := (some (aI r6))) (stk2 := [aI r6, aI v3]) okp_X12_entry (by decide +kernel) ml_RX12_415 vok_X12_entry (by decide) rfl nar_X12_entry (by decide) rfl (Nat.le_of_ble_eq_true rfl) (ok_X12_entry h4) rfl ?_
          refine aw_seq [(.iload_n 1, 1, ax0)] (pc' := 67) (L' := [some (aR 12 0 0), some (aI v1), some (aI v2), some (aI v3), some (aI v4)]) (stk' := [aI v1, aI r6, aI v3]) (σ' := σ5) (g := []) (by decide +kernel) rfl rfl ?_
          refine aw_icmp_ne (off := 7) (tgt := 74) (by decide +kernel) (by decide) (fun c1 => ?_) (fun c1 => ?_)
          · rw [if_neg c1] at h
            refine aw_forget (L' := [some (aR 12 0 0), some (aI v1), some (aI v2), none, some (aI v4)]) (lsub_s (lsub_s (lsub_s (lsub_n (lsub_s (lsub_0)))))) ?_
            exact ok_X12_befell_74 ih v1 v2 v4 v3 σ5 _ h
          · rw [if_pos c1] at h
            refine aw_forget (L' := [some (aR 12 0 0), some (aI v1), some (aI v2), none, some (aI v4)]) (lsub_s (lsub_s (lsub_s (lsub_n (lsub_s (lsub_0)))))) ?_
            exact ok_X12_befell_70 ih v1 v2 v4 v3 σ5 _ h
def f_X12_befell_13   (v1 : Int32) (v2 : Int32) (σ : Sg) : Option (Int32 × Sg) :=
  bnd (f_X12_isIn v2 0 5 σ) fun r9 σ8 =>
  if r9 = 0 then (
    f_X12_befell_22 σ8
  ) else (
    f_X12_befell_30 FU v1 v2 0 0 σ8
  )
set_option maxRecDepth 100000 in
set_option maxHeartbeats 4000000 in
theorem ok_X12_befell_13 {κ : Kd}    : ∀ (v1 : Int32) (v2 : Int32) (σ : Sg) (q : (Int32 × Sg)), f_X12_befell_13 v1 v2 σ = some q → AW κ pX12_befell 3 (some (aI q.1), q.2) 13 [some (aR 12 0 0), some (aI v1), some (aI v2), none, none] [] σ := by
  intro v1 v2 σ q h
  unfold f_X12_befell_13 at h
  refine aw_seq [(.iload_n 2, 1, ax0), (.iconst 0, 1, (axI 0)), (.iconst 5, 1, (axI 5))] (pc' := 16) (L' := [some (aR 12 0 0), some (aI v1), some (aI v2), none, none]) (stk' := [aI 5, aI 0, aI v2]) (σ' := σ) (g := []) (by decide +kernel) rfl rfl ?_
  obtain ⟨r9, σ8, h7, h⟩ := bnd_some h
  refine aw_cS (P' := pX12_isIn) (idx := 69) (d' := 1) [aI v2, aI 0, aI 5] [] (ov := (some (aI r9))) (stk2 := [aI r9]) okp_X12_isIn (by decide +kernel) ml_RX12_69 tok_X12_isIn nar_X12_isIn (by decide) rfl (Nat.le_of_ble_eq_true rfl) (ok_X12_isIn h7) rfl ?_
  refine aw_if_ne (off := 6) (tgt := 25) (by decide +kernel) (by decide) (fun c1 => ?_) (fun c1 => ?_)
  · rw [if_neg c1] at h
    refine aw_seq [(.iconst 0, 1, (axI 0)), (.istore_n 3, 1, ax0), (.iconst 0, 1, (axI 0)), (.istore 4, 2, ax0)] (pc' := 30) (L' := [some (aR 12 0 0), some (aI v1), some (aI v2), some (aI 0), some (aI 0)]) (stk' := []) (σ' := σ8) (g := []) (by decide +kernel) rfl rfl ?_
    refine aw_forget (L' := [some (aR 12 0 0), some (aI v1), some (aI v2), some (aI 0), some (aI 0)]) (lsub_s (lsub_s (lsub_s (lsub_s (lsub_s (lsub_0)))))) ?_
    exact ok_X12_befell_30 FU v1 v2 0 0 σ8 _ h
  · rw [if_pos c1] at h
    refine aw_forget (L' := [none, none, none, none, none]) (lsub_n (lsub_n (lsub_n (lsub_n (lsub_n (lsub_0)))))) ?_
    exact ok_X12_befell_22 σ8 _ h
def f_X12_befell (v1 : Int32) (v2 : Int32) (σ : Sg) : Option (Int32 × Sg) :=
  if v1 = (-1) then (
    f_X12_befell_13 v1 v2 σ
  ) else (
    bnd (f_X12_isHouse v1 σ) fun r12 σ11 =>
    if r12 = 0 then (
      f_X12_befell_22 σ11
    ) else (
      f_X12_befell_13 v1 v2 σ11
    )
  )
set_option maxRecDepth 100000 in
set_option maxHeartbeats 4000000 in
theorem ok_X12_befell {κ : Kd} {v1 : Int32} {v2 : Int32} {σ : Sg} {q : (Int32 × Sg)} (h : f_X12_befell v1 v2 σ = some q) : AMet κ pX12_befell 3 [aR 12 0 0, aI v1, aI v2] σ (some (aI q.1), q.2) := by
  unfold f_X12_befell at h
  refine amet_of okp_X12_befell [(false, aR 12 0 0), (false, aI v1), (false, aI v2)] (List.forall_mem_cons.mpr ⟨rfl, List.forall_mem_cons.mpr ⟨rfl, List.forall_mem_cons.mpr ⟨rfl, (fun _ hn => absurd hn List.not_mem_nil)⟩⟩⟩) 2 rfl ?_
  show AW κ pX12_befell 3 (some (aI q.1), q.2) 0 [some (aR 12 0 0), some (aI v1), some (aI v2), none, none] [] σ
  refine aw_seq [(.iload_n 1, 1, ax0), (.iconst (-1), 1, (axI (-1)))] (pc' := 2) (L' := [some (aR 12 0 0), some (aI v1), some (aI v2), none, none]) (stk' := [aI (-1), aI v1]) (σ' := σ) (g := []) (by decide +kernel) rfl rfl ?_
  refine aw_icmp_eq (off := 11) (tgt := 13) (by decide +kernel) (by decide) (fun c1 => ?_) (fun c1 => ?_)
  · rw [if_pos c1] at h
    refine aw_forget (L' := [some (aR 12 0 0), some (aI v1), some (aI v2), none, none]) (lsub_s (lsub_s (lsub_s (lsub_n (lsub_n (lsub_0)))))) ?_
    exact ok_X12_befell_13 v1 v2 σ _ h
  · rw [if_neg c1] at h
    refine aw_seq [(.aload_n 0, 1, ax0), (.iload_n 1, 1, ax0)] (pc' := 7) (L' := [some (aR 12 0 0), some (aI v1), some (aI v2), none, none]) (stk' := [aI v1, aR 12 0 0]) (σ' := σ) (g := []) (by decide +kernel) rfl rfl ?_
    obtain ⟨r12, σ11, h10, h⟩ := bnd_some h
    refine aw_cV (P' := pX12_isHouse) (idx := 88) (d' := 2) (c := 12) (n := 0) (k := 0) [aI v1] [] (ov := (some (aI r12))) (stk2 := [aI r12]) okp_X12_isHouse (by decide +kernel) ml_RX12_88 vok_X12_isHouse (by decide) rfl nar_X12_isHouse (by decide) rfl (Nat.le_of_ble_eq_true rfl) (ok_X12_isHouse h10) rfl ?_
    refine aw_if_eq (off := 12) (tgt := 22) (by decide +kernel) (by decide) (fun c1 => ?_) (fun c1 => ?_)
    · rw [if_pos c1] at h
      refine aw_forget (L' := [none, none, none, none, none]) (lsub_n (lsub_n (lsub_n (lsub_n (lsub_n (lsub_0)))))) ?_
      exact ok_X12_befell_22 σ11 _ h
    · rw [if_neg c1] at h
      refine aw_forget (L' := [some (aR 12 0 0), some (aI v1), some (aI v2), none, none]) (lsub_s (lsub_s (lsub_s (lsub_n (lsub_n (lsub_0)))))) ?_
      exact ok_X12_befell_13 v1 v2 σ11 _ h
