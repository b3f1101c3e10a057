/-! printed by wip/whole/gen4.py from the class file: (sum product one around choice either both ask deny), clause, add, isDigit, isLetter, isLatin1, coder, length, canEncode, indexOfChar, indexOf, indexOf, indexOf, signOf, checkIndex, checkIndex, charAt, charAt, isWord -/
def f_X3_sum_38 (rc : Nat → Int32 → Int32 → Sg → Option Sg) (rec_9 : Int32 → Int32 → Sg → Option Sg) (v1 : Int32) (v2 : Int32) (v3 : Int32) (σ : Sg) : Option Sg :=
  ltσ (wI σ 49 4 ((σ.1 49 4) + 1)) fun σ1 =>
  bndV (rc 1 v1 0 σ1) fun σ4 =>
  bnd (f_X3_emit v3 0 σ4) fun r7 σ6 =>
  rec_9 v1 (v2 + (-1)) σ6
set_option maxRecDepth 100000 in
set_option maxHeartbeats 4000000 in
theorem ok_X3_sum_38 {κ : Kd}  {dd : Nat} (hdd : 4 ≤ dd) {rc : Nat → Int32 → Int32 → Sg → Option Sg} (hrc : ∀ i a b σ q, rc i a b σ = some q → AMet κ (scP3 i) dd (scA3 i a b) σ (none, q))  {rec_9 : Int32 → Int32 → Sg → Option Sg} (hrec_9 : ∀ (v1 : Int32) (v2 : Int32) (σ : Sg) (q : Sg), rec_9 v1 v2 σ = some q → AW κ pX3_sum (dd + 1) (none, q) 9 [some (aR 3 0 49), some (aI v1), some (aI v2), none] [] σ) : ∀ (v1 : Int32) (v2 : Int32) (v3 : Int32) (σ : Sg) (q : Sg), f_X3_sum_38 rc rec_9 v1 v2 v3 σ = some q → AW κ pX3_sum (dd + 1) (none, q) 38 [some (aR 3 0 49), some (aI v1), some (aI v2), some (aI v3)] [] σ := by
  intro v1 v2 v3 σ q h
  unfold f_X3_sum_38 at h
  obtain ⟨σ1, e2, h⟩ := ltσ_some h
  refine aw_seq [(.aload_n 0, 1, ax0), (.dup, 1, ax0), (.getfield 43, 3, (axF 3 4 (0, 0, 0, none))), (.iconst 1, 1, (axI 1)), (.iadd, 1, ax0), (.putfield 43, 3, (axF 3 4 (0, 0, 0, none)))] (pc' := 48) (L' := [some (aR 3 0 49), some (aI v1), some (aI v2), some (aI v3)]) (stk' := []) (σ' := σ1) (g := []) (by decide +kernel) (by rw [e2]; rfl) rfl ?_
  refine aw_seq [(.aload_n 0, 1, ax0), (.iload_n 1, 1, ax0)] (pc' := 50) (L' := [some (aR 3 0 49), some (aI v1), some (aI v2), some (aI v3)]) (stk' := [aI v1, aR 3 0 49]) (σ' := σ1) (g := []) (by decide +kernel) rfl rfl ?_
  obtain ⟨σ4, h3, h⟩ := bndV_some h
  refine aw_cV (P' := pX3_product) (idx := 121) (d' := dd) (c := 3) (n := 0) (k := 49) [aI v1] [] (ov := none) (stk2 := []) okp_X3_product (by decide +kernel) ml_RX3_121 vok_X3_product (by decide) rfl nar_X3_product (room2_succ rfl) rfl (Nat.le_of_ble_eq_true rfl) (hrc _ _ _ _ _ h3) rfl ?_
  refine aw_seq [(.aload_n 0, 1, ax0), (.iload_n 3, 1, ax0), (.iconst 0, 1, (axI 0))] (pc' := 56) (L' := [some (aR 3 0 49), some (aI v1), some (aI v2), some (aI v3)]) (stk' := [aI 0, aI v3, aR 3 0 49]) (σ' := σ4) (g := []) (by decide +kernel) rfl rfl ?_
  obtain ⟨r7, σ6, h5, h⟩ := bnd_some h
  refine aw_cV (P' := pX3_emit) (idx := 124) (d' := 1) (c := 3) (n := 0) (k := 49) [aI v3, aI 0] [] (ov := (some (aI r7))) (stk2 := [aI r7]) okp_X3_emit (by decide +kernel) ml_RX3_124 vok_X3_emit (by decide) rfl nar_X3_emit (room2_le (d0 := 4 + 1) (by decide) (by omega)) rfl (Nat.le_of_ble_eq_true rfl) (ok_X3_emit h5) rfl ?_
  refine aw_seq [(.pop, 1, ax0), (.iinc 2 (-1), 3, (axI (-1)))] (pc' := 63) (L' := [some (aR 3 0 49), some (aI v1), some (aI (v2 + (-1))), some (aI v3)]) (stk' := []) (σ' := σ6) (g := []) (by decide +kernel) rfl rfl ?_
  refine aw_goto (off := (-54)) (tgt := 9) (by decide +kernel) (by decide) ?_
  refine aw_forget (L' := [some (aR 3 0 49), some (aI v1), some (aI (v2 + (-1))), none]) (lsub_s (lsub_s (lsub_s (lsub_n (lsub_0))))) ?_
  exact hrec_9 v1 (v2 + (-1)) σ6 _ h
def f_X3_sum_9 (rc : Nat → Int32 → Int32 → Sg → Option Sg)  : Nat → Int32 → Int32 → Sg → Option Sg
  | 0, _, _, _ => none
  | fu + 1, v1, v2, σ =>
    if v2 ≤ 0 then (
      some σ
    ) else (
      bnd (f_X7_kind (σ.1 49 4) σ) fun r10 σ9 =>
      if r10 = 36 then (
        f_X3_sum_38 rc (f_X3_sum_9 rc fu) v1 v2 r10 σ9
      ) else (
        if r10 = 37 then (
          f_X3_sum_38 rc (f_X3_sum_9 rc fu) v1 v2 r10 σ9
        ) else (
          some σ9
        )
      )
    )
set_option maxRecDepth 100000 in
set_option maxHeartbeats 4000000 in
theorem ok_X3_sum_9 {κ : Kd}  {dd : Nat} (hdd : 4 ≤ dd) {rc : Nat → Int32 → Int32 → Sg → Option Sg} (hrc : ∀ i a b σ q, rc i a b σ = some q → AMet κ (scP3 i) dd (scA3 i a b) σ (none, q))   : ∀ (fu : Nat) (v1 : Int32) (v2 : Int32) (σ : Sg) (q : Sg), f_X3_sum_9 rc fu v1 v2 σ = some q → AW κ pX3_sum (dd + 1) (none, q) 9 [some (aR 3 0 49), some (aI v1), some (aI v2), none] [] σ := by
  intro fu
  induction fu with
  | zero =>
    intro v1 v2 σ q h
    unfold f_X3_sum_9 at h
    cases h
  | succ fu ih =>
    intro v1 v2 σ q h
    unfold f_X3_sum_9 at h
    refine aw_seq [(.iload_n 2, 1, ax0)] (pc' := 10) (L' := [some (aR 3 0 49), some (aI v1), some (aI v2), none]) (stk' := [aI v2]) (σ' := σ) (g := []) (by decide +kernel) rfl rfl ?_
    refine aw_if_le (off := 56) (tgt := 66) (by decide +kernel) (by decide) (fun c1 => ?_) (fun c1 => ?_)
    · rw [if_pos c1] at h
      cases h
      exact aw_vret rfl (by decide +kernel)
    · rw [if_neg c1] at h
      refine aw_seq [(.aload_n 0, 1, ax0), (.getfield 12, 3, (axF 3 3 (2, 1, 7, some 0))), (.aload_n 0, 1, ax0), (.getfield 43, 3, (axF 3 4 (0, 0, 0, none)))] (pc' := 21) (L' := [some (aR 3 0 49), some (aI v1), some (aI v2), none]) (stk' := [aI (σ.1 49 4), aR 7 0 50]) (σ' := σ) (g := []) (by decide +kernel) rfl rfl ?_
      obtain ⟨r10, σ9, h8, h⟩ := bnd_some h
      refine aw_cV (P' := pX7_kind) (idx := 47) (d' := 1) (c := 7) (n := 0) (k := 50) [aI (σ.1 49 4)] [] (ov := (some (aI r10))) (stk2 := [aI r10]) okp_X7_kind (by decide +kernel) ml_RX3_47 vok_X7_kind (by decide) rfl nar_X7_kind (room2_le (d0 := 4 + 1) (by decide) (by omega)) rfl (Nat.le_of_ble_eq_true rfl) (ok_X7_kind h8) rfl ?_
      refine aw_seq [(.istore_n 3, 1, ax0), (.iload_n 3, 1, ax0), (.bipush 36, 2, (axI 36))] (pc' := 28) (L' := [some (aR 3 0 49), some (aI v1), some (aI v2), some (aI r10)]) (stk' := [aI 36, aI r10]) (σ' := σ9) (g := []) (by decide +kernel) rfl rfl ?_
      refine aw_icmp_eq (off := 10) (tgt := 38) (by decide +kernel) (by decide) (fun c1 => ?_) (fun c1 => ?_)
      · rw [if_pos c1] at h
        refine aw_forget (L' := [some (aR 3 0 49), some (aI v1), some (aI v2), some (aI r10)]) (lsub_s (lsub_s (lsub_s (lsub_s (lsub_0))))) ?_
        exact ok_X3_sum_38 hdd hrc ih v1 v2 r10 σ9 _ h
      · rw [if_neg c1] at h
        refine aw_seq [(.iload_n 3, 1, ax0), (.bipush 37, 2, (axI 37))] (pc' := 34) (L' := [some (aR 3 0 49), some (aI v1), some (aI v2), some (aI r10)]) (stk' := [aI 37, aI r10]) (σ' := σ9) (g := []) (by decide +kernel) rfl rfl ?_
        refine aw_icmp_eq (off := 4) (tgt := 38) (by decide +kernel) (by decide) (fun c1 => ?_) (fun c1 => ?_)
        · rw [if_pos c1] at h
          refine aw_forget (L' := [some (aR 3 0 49), some (aI v1), some (aI v2), some (aI r10)]) (lsub_s (lsub_s (lsub_s (lsub_s (lsub_0))))) ?_
          exact ok_X3_sum_38 hdd hrc ih v1 v2 r10 σ9 _ h
        · rw [if_neg c1] at h
          cases h
          exact aw_vret rfl (by decide +kernel)
def b_X3_sum (rc : Nat → Int32 → Int32 → Sg → Option Sg) (v1 : Int32) (σ : Sg) : Option Sg :=
  bndV (rc 1 v1 0 σ) fun σ12 =>
  f_X3_sum_9 rc FU v1 300 σ12
set_option maxRecDepth 100000 in
set_option maxHeartbeats 4000000 in
theorem okb_X3_sum {κ : Kd} {dd : Nat} (hdd : 4 ≤ dd) {rc : Nat → Int32 → Int32 → Sg → Option Sg} (hrc : ∀ i a b σ q, rc i a b σ = some q → AMet κ (scP3 i) dd (scA3 i a b) σ (none, q)) {v1 : Int32} {σ : Sg} {q : Sg} (h : b_X3_sum rc v1 σ = some q) : AMet κ pX3_sum (dd + 1) [aR 3 0 49, aI v1] σ (none, q) := by
  unfold b_X3_sum at h
  refine amet_of okp_X3_sum [(false, aR 3 0 49), (false, aI v1)] (List.forall_mem_cons.mpr ⟨rfl, List.forall_mem_cons.mpr ⟨rfl, (fun _ hn => absurd hn List.not_mem_nil)⟩⟩) 2 rfl ?_
  show AW κ pX3_sum (dd + 1) (none, q) 0 [some (aR 3 0 49), some (aI v1), none, none] [] σ
  refine aw_seq [(.aload_n 0, 1, ax0), (.iload_n 1, 1, ax0)] (pc' := 2) (L' := [some (aR 3 0 49), some (aI v1), none, none]) (stk' := [aI v1, aR 3 0 49]) (σ' := σ) (g := []) (by decide +kernel) rfl rfl ?_
  obtain ⟨σ12, h11, h⟩ := bndV_some h
  refine aw_cV (P' := pX3_product) (idx := 121) (d' := dd) (c := 3) (n := 0) (k := 49) [aI v1] [] (ov := none) (stk2 := []) okp_X3_product (by decide +kernel) ml_RX3_121 vok_X3_product (by decide) rfl nar_X3_product (room2_succ rfl) rfl (Nat.le_of_ble_eq_true rfl) (hrc _ _ _ _ _ h11) rfl ?_
  refine aw_seq [(.sipush 300, 3, (axI 300)), (.istore_n 2, 1, ax0)] (pc' := 9) (L' := [some (aR 3 0 49), some (aI v1), some (aI 300), none]) (stk' := []) (σ' := σ12) (g := []) (by decide +kernel) rfl rfl ?_
  refine aw_forget (L' := [some (aR 3 0 49), some (aI v1), some (aI 300), none]) (lsub_s (lsub_s (lsub_s (lsub_n (lsub_0))))) ?_
  exact ok_X3_sum_9 hdd hrc FU v1 300 σ12 _ h
def f_X3_product_38 (rc : Nat → Int32 → Int32 → Sg → Option Sg) (rec_9 : Int32 → Int32 → Sg → Option Sg) (v1 : Int32) (v2 : Int32) (v3 : Int32) (σ : Sg) : Option Sg :=
  ltσ (wI σ 49 4 ((σ.1 49 4) + 1)) fun σ1 =>
  bndV (rc 2 v1 0 σ1) fun σ4 =>
  bnd (f_X3_emit v3 0 σ4) fun r7 σ6 =>
  rec_9 v1 (v2 + (-1)) σ6
set_option maxRecDepth 100000 in
set_option maxHeartbeats 4000000 in
theorem ok_X3_product_38 {κ : Kd}  {dd : Nat} (hdd : 4 ≤ dd) {rc : Nat → Int32 → Int32 → Sg → Option Sg} (hrc : ∀ i a b σ q, rc i a b σ = some q → AMet κ (scP3 i) dd (scA3 i a b) σ (none, q))  {rec_9 : Int32 → Int32 → Sg → Option Sg} (hrec_9 : ∀ (v1 : Int32) (v2 : Int32) (σ : Sg) (q : Sg), rec_9 v1 v2 σ = some q → AW κ pX3_product (dd + 1) (none, q) 9 [some (aR 3 0 49), some (aI v1), some (aI v2), none] [] σ) : ∀ (v1 : Int32) (v2 : Int32) (v3 : Int32) (σ : Sg) (q : Sg), f_X3_product_38 rc rec_9 v1 v2 v3 σ = some q → AW κ pX3_product (dd + 1) (none, q) 38 [some (aR 3 0 49), some (aI v1), some (aI v2), some (aI v3)] [] σ := by
  intro v1 v2 v3 σ q h
  unfold f_X3_product_38 at h
  obtain ⟨σ1, e2, h⟩ := ltσ_some h
  refine aw_seq [(.aload_n 0, 1, ax0), (.dup, 1, ax0), (.getfield 43, 3, (axF 3 4 (0, 0, 0, none))), (.iconst 1, 1, (axI 1)), (.iadd, 1, ax0), (.putfield 43, 3, (axF 3 4 (0, 0, 0, none)))] (pc' := 48) (L' := [some (aR 3 0 49), some (aI v1), some (aI v2), some (aI v3)]) (stk' := []) (σ' := σ1) (g := []) (by decide +kernel) (by rw [e2]; rfl) rfl ?_
  refine aw_seq [(.aload_n 0, 1, ax0), (.iload_n 1, 1, ax0)] (pc' := 50) (L' := [some (aR 3 0 49), some (aI v1), some (aI v2), some (aI v3)]) (stk' := [aI v1, aR 3 0 49]) (σ' := σ1) (g := []) (by decide +kernel) rfl rfl ?_
  obtain ⟨σ4, h3, h⟩ := bndV_some h
  refine aw_cV (P' := pX3_one) (idx := 127) (d' := dd) (c := 3) (n := 0) (k := 49) [aI v1] [] (ov := none) (stk2 := []) okp_X3_one (by decide +kernel) ml_RX3_127 vok_X3_one (by decide) rfl nar_X3_one (room2_succ rfl) rfl (Nat.le_of_ble_eq_true rfl) (hrc _ _ _ _ _ h3) rfl ?_
  refine aw_seq [(.aload_n 0, 1, ax0), (.iload_n 3, 1, ax0), (.iconst 0, 1, (axI 0))] (pc' := 56) (L' := [some (aR 3 0 49), some (aI v1), some (aI v2), some (aI v3)]) (stk' := [aI 0, aI v3, aR 3 0 49]) (σ' := σ4) (g := []) (by decide +kernel) rfl rfl ?_
  obtain ⟨r7, σ6, h5, h⟩ := bnd_some h
  refine aw_cV (P' := pX3_emit) (idx := 124) (d' := 1) (c := 3) (n := 0) (k := 49) [aI v3, aI 0] [] (ov := (some (aI r7))) (stk2 := [aI r7]) okp_X3_emit (by decide +kernel) ml_RX3_124 vok_X3_emit (by decide) rfl nar_X3_emit (room2_le (d0 := 4 + 1) (by decide) (by omega)) rfl (Nat.le_of_ble_eq_true rfl) (ok_X3_emit h5) rfl ?_
  refine aw_seq [(.pop, 1, ax0), (.iinc 2 (-1), 3, (axI (-1)))] (pc' := 63) (L' := [some (aR 3 0 49), some (aI v1), some (aI (v2 + (-1))), some (aI v3)]) (stk' := []) (σ' := σ6) (g := []) (by decide +kernel) rfl rfl ?_
  refine aw_goto (off := (-54)) (tgt := 9) (by decide +kernel) (by decide) ?_
  refine aw_forget (L' := [some (aR 3 0 49), some (aI v1), some (aI (v2 + (-1))), none]) (lsub_s (lsub_s (lsub_s (lsub_n (lsub_0))))) ?_
  exact hrec_9 v1 (v2 + (-1)) σ6 _ h
def f_X3_product_9 (rc : Nat → Int32 → Int32 → Sg → Option Sg)  : Nat → Int32 → Int32 → Sg → Option Sg
  | 0, _, _, _ => none
  | fu + 1, v1, v2, σ =>
    if v2 ≤ 0 then (
      some σ
    ) else (
      bnd (f_X7_kind (σ.1 49 4) σ) fun r10 σ9 =>
      if r10 = 38 then (
        f_X3_product_38 rc (f_X3_product_9 rc fu) v1 v2 r10 σ9
      ) else (
        if r10 = 39 then (
          f_X3_product_38 rc (f_X3_product_9 rc fu) v1 v2 r10 σ9
        ) else (
          some σ9
        )
      )
    )
set_option maxRecDepth 100000 in
set_option maxHeartbeats 4000000 in
theorem ok_X3_product_9 {κ : Kd}  {dd : Nat} (hdd : 4 ≤ dd) {rc : Nat → Int32 → Int32 → Sg → Option Sg} (hrc : ∀ i a b σ q, rc i a b σ = some q → AMet κ (scP3 i) dd (scA3 i a b) σ (none, q))   : ∀ (fu : Nat) (v1 : Int32) (v2 : Int32) (σ : Sg) (q : Sg), f_X3_product_9 rc fu v1 v2 σ = some q → AW κ pX3_product (dd + 1) (none, q) 9 [some (aR 3 0 49), some (aI v1), some (aI v2), none] [] σ := by
  intro fu
  induction fu with
  | zero =>
    intro v1 v2 σ q h
    unfold f_X3_product_9 at h
    cases h
  | succ fu ih =>
    intro v1 v2 σ q h
    unfold f_X3_product_9 at h
    refine aw_seq [(.iload_n 2, 1, ax0)] (pc' := 10) (L' := [some (aR 3 0 49), some (aI v1), some (aI v2), none]) (stk' := [aI v2]) (σ' := σ) (g := []) (by decide +kernel) rfl rfl ?_
    refine aw_if_le (off := 56) (tgt := 66) (by decide +kernel) (by decide) (fun c1 => ?_) (fun c1 => ?_)
    · rw [if_pos c1] at h
      cases h
      exact aw_vret rfl (by decide +kernel)
    · rw [if_neg c1] at h
      refine aw_seq [(.aload_n 0, 1, ax0), (.getfield 12, 3, (axF 3 3 (2, 1, 7, some 0))), (.aload_n 0, 1, ax0), (.getfield 43, 3, (axF 3 4 (0, 0, 0, none)))] (pc' := 21) (L' := [some (aR 3 0 49), some (aI v1), some (aI v2), none]) (stk' := [aI (σ.1 49 4), aR 7 0 50]) (σ' := σ) (g := []) (by decide +kernel) rfl rfl ?_
      obtain ⟨r10, σ9, h8, h⟩ := bnd_some h
      refine aw_cV (P' := pX7_kind) (idx := 47) (d' := 1) (c := 7) (n := 0) (k := 50) [aI (σ.1 49 4)] [] (ov := (some (aI r10))) (stk2 := [aI r10]) okp_X7_kind (by decide +kernel) ml_RX3_47 vok_X7_kind (by decide) rfl nar_X7_kind (room2_le (d0 := 4 + 1) (by decide) (by omega)) rfl (Nat.le_of_ble_eq_true rfl) (ok_X7_kind h8) rfl ?_
      refine aw_seq [(.istore_n 3, 1, ax0), (.iload_n 3, 1, ax0), (.bipush 38, 2, (axI 38))] (pc' := 28) (L' := [some (aR 3 0 49), some (aI v1), some (aI v2), some (aI r10)]) (stk' := [aI 38, aI r10]) (σ' := σ9) (g := []) (by decide +kernel) rfl rfl ?_
      refine aw_icmp_eq (off := 10) (tgt := 38) (by decide +kernel) (by decide) (fun c1 => ?_) (fun c1 => ?_)
      · rw [if_pos c1] at h
        refine aw_forget (L' := [some (aR 3 0 49), some (aI v1), some (aI v2), some (aI r10)]) (lsub_s (lsub_s (lsub_s (lsub_s (lsub_0))))) ?_
        exact ok_X3_product_38 hdd hrc ih v1 v2 r10 σ9 _ h
      · rw [if_neg c1] at h
        refine aw_seq [(.iload_n 3, 1, ax0), (.bipush 39, 2, (axI 39))] (pc' := 34) (L' := [some (aR 3 0 49), some (aI v1), some (aI v2), some (aI r10)]) (stk' := [aI 39, aI r10]) (σ' := σ9) (g := []) (by decide +kernel) rfl rfl ?_
        refine aw_icmp_eq (off := 4) (tgt := 38) (by decide +kernel) (by decide) (fun c1 => ?_) (fun c1 => ?_)
        · rw [if_pos c1] at h
          refine aw_forget (L' := [some (aR 3 0 49), some (aI v1), some (aI v2), some (aI r10)]) (lsub_s (lsub_s (lsub_s (lsub_s (lsub_0))))) ?_
          exact ok_X3_product_38 hdd hrc ih v1 v2 r10 σ9 _ h
        · rw [if_neg c1] at h
          cases h
          exact aw_vret rfl (by decide +kernel)
def b_X3_product (rc : Nat → Int32 → Int32 → Sg → Option Sg) (v1 : Int32) (σ : Sg) : Option Sg :=
  bndV (rc 2 v1 0 σ) fun σ12 =>
  f_X3_product_9 rc FU v1 300 σ12
set_option maxRecDepth 100000 in
set_option maxHeartbeats 4000000 in
theorem okb_X3_product {κ : Kd} {dd : Nat} (hdd : 4 ≤ dd) {rc : Nat → Int32 → Int32 → Sg → Option Sg} (hrc : ∀ i a b σ q, rc i a b σ = some q → AMet κ (scP3 i) dd (scA3 i a b) σ (none, q)) {v1 : Int32} {σ : Sg} {q : Sg} (h : b_X3_product rc v1 σ = some q) : AMet κ pX3_product (dd + 1) [aR 3 0 49, aI v1] σ (none, q) := by
  unfold b_X3_product at h
  refine amet_of okp_X3_product [(false, aR 3 0 49), (false, aI v1)] (List.forall_mem_cons.mpr ⟨rfl, List.forall_mem_cons.mpr ⟨rfl, (fun _ hn => absurd hn List.not_mem_nil)⟩⟩) 2 rfl ?_
  show AW κ pX3_product (dd + 1) (none, q) 0 [some (aR 3 0 49), some (aI v1), none, none] [] σ
  refine aw_seq [(.aload_n 0, 1, ax0), (.iload_n 1, 1, ax0)] (pc' := 2) (L' := [some (aR 3 0 49), some (aI v1), none, none]) (stk' := [aI v1, aR 3 0 49]) (σ' := σ) (g := []) (by decide +kernel) rfl rfl ?_
  obtain ⟨σ12, h11, h⟩ := bndV_some h
  refine aw_cV (P' := pX3_one) (idx := 127) (d' := dd) (c := 3) (n := 0) (k := 49) [aI v1] [] (ov := none) (stk2 := []) okp_X3_one (by decide +kernel) ml_RX3_127 vok_X3_one (by decide) rfl nar_X3_one (room2_succ rfl) rfl (Nat.le_of_ble_eq_true rfl) (hrc _ _ _ _ _ h11) rfl ?_
  refine aw_seq [(.sipush 300, 3, (axI 300)), (.istore_n 2, 1, ax0)] (pc' := 9) (L' := [some (aR 3 0 49), some (aI v1), some (aI 300), none]) (stk' := []) (σ' := σ12) (g := []) (by decide +kernel) rfl rfl ?_
  refine aw_forget (L' := [some (aR 3 0 49), some (aI v1), some (aI 300), none]) (lsub_s (lsub_s (lsub_s (lsub_n (lsub_0))))) ?_
  exact ok_X3_product_9 hdd hrc FU v1 300 σ12 _ h
def f_X3_one_93 (rc : Nat → Int32 → Int32 → Sg → Option Sg)   (σ : Sg) : Option Sg :=
  some σ
set_option maxRecDepth 100000 in
set_option maxHeartbeats 4000000 in
theorem ok_X3_one_93 {κ : Kd}  {dd : Nat} (hdd : 4 ≤ dd) {rc : Nat → Int32 → Int32 → Sg → Option Sg} (hrc : ∀ i a b σ q, rc i a b σ = some q → AMet κ (scP3 i) dd (scA3 i a b) σ (none, q))   : ∀  (σ : Sg) (q : Sg), f_X3_one_93 rc  σ = some q → AW κ pX3_one (dd + 1) (none, q) 93 [none, none, none] [] σ := by
  intro  σ q h
  unfold f_X3_one_93 at h
  cases h
  exact aw_vret rfl (by decide +kernel)
def f_X3_one_79 (rc : Nat → Int32 → Int32 → Sg → Option Sg)  (v1 : Int32) (v2 : Int32) (σ : Sg) : Option Sg :=
  bndV (rc 3 v2 v1 σ) fun σ2 =>
  f_X3_one_93 rc σ2
set_option maxRecDepth 100000 in
set_option maxHeartbeats 4000000 in
theorem ok_X3_one_79 {κ : Kd}  {dd : Nat} (hdd : 4 ≤ dd) {rc : Nat → Int32 → Int32 → Sg → Option Sg} (hrc : ∀ i a b σ q, rc i a b σ = some q → AMet κ (scP3 i) dd (scA3 i a b) σ (none, q))   : ∀ (v1 : Int32) (v2 : Int32) (σ : Sg) (q : Sg), f_X3_one_79 rc v1 v2 σ = some q → AW κ pX3_one (dd + 1) (none, q) 79 [some (aR 3 0 49), some (aI v1), some (aI v2)] [] σ := by
  intro v1 v2 σ q h
  unfold f_X3_one_79 at h
  refine aw_seq [(.aload_n 0, 1, ax0), (.iload_n 2, 1, ax0), (.iload_n 1, 1, ax0)] (pc' := 82) (L' := [some (aR 3 0 49), some (aI v1), some (aI v2)]) (stk' := [aI v1, aI v2, aR 3 0 49]) (σ' := σ) (g := []) (by decide +kernel) rfl rfl ?_
  obtain ⟨σ2, h1, h⟩ := bndV_some h
  refine aw_cV (P' := pX3_around) (idx := 133) (d' := dd) (c := 3) (n := 0) (k := 49) [aI v2, aI v1] [] (ov := none) (stk2 := []) okp_X3_around (by decide +kernel) ml_RX3_133 vok_X3_around (by decide) rfl nar_X3_around (room2_succ rfl) rfl (Nat.le_of_ble_eq_true rfl) (hrc _ _ _ _ _ h1) rfl ?_
  refine aw_goto (off := 8) (tgt := 93) (by decide +kernel) (by decide) ?_
  refine aw_forget (L' := [none, none, none]) (lsub_n (lsub_n (lsub_n (lsub_0)))) ?_
  exact ok_X3_one_93 hdd hrc σ2 _ h
def f_X3_one_55 (rc : Nat → Int32 → Int32 → Sg → Option Sg)  (v1 : Int32) (v2 : Int32) (σ : Sg) : Option Sg :=
  if v2 = 40 then (
    f_X3_one_79 rc v1 v2 σ
  ) else (
    if v2 = 37 then (
      f_X3_one_79 rc v1 v2 σ
    ) else (
      if v2 = 47 then (
        f_X3_one_79 rc v1 v2 σ
      ) else (
        if v2 = 24 then (
          f_X3_one_79 rc v1 v2 σ
        ) else (
          bndV (f_X3_fail 1 σ) fun σ4 =>
          f_X3_one_93 rc σ4
        )
      )
    )
  )
set_option maxRecDepth 100000 in
set_option maxHeartbeats 4000000 in
theorem ok_X3_one_55 {κ : Kd}  {dd : Nat} (hdd : 4 ≤ dd) {rc : Nat → Int32 → Int32 → Sg → Option Sg} (hrc : ∀ i a b σ q, rc i a b σ = some q → AMet κ (scP3 i) dd (scA3 i a b) σ (none, q))   : ∀ (v1 : Int32) (v2 : Int32) (σ : Sg) (q : Sg), f_X3_one_55 rc v1 v2 σ = some q → AW κ pX3_one (dd + 1) (none, q) 55 [some (aR 3 0 49), some (aI v1), some (aI v2)] [] σ := by
  intro v1 v2 σ q h
  unfold f_X3_one_55 at h
  refine aw_seq [(.iload_n 2, 1, ax0), (.bipush 40, 2, (axI 40))] (pc' := 58) (L' := [some (aR 3 0 49), some (aI v1), some (aI v2)]) (stk' := [aI 40, aI v2]) (σ' := σ) (g := []) (by decide +kernel) rfl rfl ?_
  refine aw_icmp_eq (off := 21) (tgt := 79) (by decide +kernel) (by decide) (fun c1 => ?_) (fun c1 => ?_)
  · rw [if_pos c1] at h
    refine aw_forget (L' := [some (aR 3 0 49), some (aI v1), some (aI v2)]) (lsub_s (lsub_s (lsub_s (lsub_0)))) ?_
    exact ok_X3_one_79 hdd hrc v1 v2 σ _ h
  · rw [if_neg c1] at h
    refine aw_seq [(.iload_n 2, 1, ax0), (.bipush 37, 2, (axI 37))] (pc' := 64) (L' := [some (aR 3 0 49), some (aI v1), some (aI v2)]) (stk' := [aI 37, aI v2]) (σ' := σ) (g := []) (by decide +kernel) rfl rfl ?_
    refine aw_icmp_eq (off := 15) (tgt := 79) (by decide +kernel) (by decide) (fun c1 => ?_) (fun c1 => ?_)
    · rw [if_pos c1] at h
      refine aw_forget (L' := [some (aR 3 0 49), some (aI v1), some (aI v2)]) (lsub_s (lsub_s (lsub_s (lsub_0)))) ?_
      exact ok_X3_one_79 hdd hrc v1 v2 σ _ h
    · rw [if_neg c1] at h
      refine aw_seq [(.iload_n 2, 1, ax0), (.bipush 47, 2, (axI 47))] (pc' := 70) (L' := [some (aR 3 0 49), some (aI v1), some (aI v2)]) (stk' := [aI 47, aI v2]) (σ' := σ) (g := []) (by decide +kernel) rfl rfl ?_
      refine aw_icmp_eq (off := 9) (tgt := 79) (by decide +kernel) (by decide) (fun c1 => ?_) (fun c1 => ?_)
      · rw [if_pos c1] at h
        refine aw_forget (L' := [some (aR 3 0 49), some (aI v1), some (aI v2)]) (lsub_s (lsub_s (lsub_s (lsub_0)))) ?_
        exact ok_X3_one_79 hdd hrc v1 v2 σ _ h
      · rw [if_neg c1] at h
        refine aw_seq [(.iload_n 2, 1, ax0), (.bipush 24, 2, (axI 24))] (pc' := 76) (L' := [some (aR 3 0 49), some (aI v1), some (aI v2)]) (stk' := [aI 24, aI v2]) (σ' := σ) (g := []) (by decide +kernel) rfl rfl ?_
        refine aw_icmp_ne (off := 12) (tgt := 88) (by decide +kernel) (by decide) (fun c1 => ?_) (fun c1 => ?_)
        · rw [if_neg c1] at h
          refine aw_seq [(.aload_n 0, 1, ax0), (.iconst 1, 1, (axI 1))] (pc' := 90) (L' := [some (aR 3 0 49), some (aI v1), some (aI v2)]) (stk' := [aI 1, aR 3 0 49]) (σ' := σ) (g := []) (by decide +kernel) rfl rfl ?_
          obtain ⟨σ4, h3, h⟩ := bndV_some h
          refine aw_cV (P' := pX3_fail) (idx := 90) (d' := 2) (c := 3) (n := 0) (k := 49) [aI 1] [] (ov := none) (stk2 := []) okp_X3_fail (by decide +kernel) ml_RX3_90 vok_X3_fail (by decide) rfl nar_X3_fail (room2_le (d0 := 4 + 1) (by decide) (by omega)) rfl (Nat.le_of_ble_eq_true rfl) (ok_X3_fail h3) rfl ?_
          refine aw_forget (L' := [none, none, none]) (lsub_n (lsub_n (lsub_n (lsub_0)))) ?_
          exact ok_X3_one_93 hdd hrc σ4 _ h
        · rw [if_pos c1] at h
          refine aw_forget (L' := [some (aR 3 0 49), some (aI v1), some (aI v2)]) (lsub_s (lsub_s (lsub_s (lsub_0)))) ?_
          exact ok_X3_one_79 hdd hrc v1 v2 σ _ h
def b_X3_one (rc : Nat → Int32 → Int32 → Sg → Option Sg) (v1 : Int32) (σ : Sg) : Option Sg :=
  bnd (f_X7_kind (σ.1 49 4) σ) fun r7 σ6 =>
  if r7 = 43 then (
    bnd (f_X3_takeNumber 0 9999 σ6) fun r12 σ11 =>
    bnd (f_X3_emit r7 r12 σ11) fun r15 σ14 =>
    f_X3_one_93 rc σ14
  ) else (
    if r7 < 11 then (
      f_X3_one_55 rc v1 r7 σ6
    ) else (
      if 19 < r7 then (
        f_X3_one_55 rc v1 r7 σ6
      ) else (
        bndV (f_X3_name r7 σ6) fun σ9 =>
        f_X3_one_93 rc σ9
      )
    )
  )
set_option maxRecDepth 100000 in
set_option maxHeartbeats 4000000 in
theorem okb_X3_one {κ : Kd} {dd : Nat} (hdd : 4 ≤ dd) {rc : Nat → Int32 → Int32 → Sg → Option Sg} (hrc : ∀ i a b σ q, rc i a b σ = some q → AMet κ (scP3 i) dd (scA3 i a b) σ (none, q)) {v1 : Int32} {σ : Sg} {q : Sg} (h : b_X3_one rc v1 σ = some q) : AMet κ pX3_one (dd + 1) [aR 3 0 49, aI v1] σ (none, q) := by
  unfold b_X3_one at h
  refine amet_of okp_X3_one [(false, aR 3 0 49), (false, aI v1)] (List.forall_mem_cons.mpr ⟨rfl, List.forall_mem_cons.mpr ⟨rfl, (fun _ hn => absurd hn List.not_mem_nil)⟩⟩) 1 rfl ?_
  show AW κ pX3_one (dd + 1) (none, q) 0 [some (aR 3 0 49), some (aI v1), none] [] σ
  refine aw_seq [(.aload_n 0, 1, ax0), (.getfield 12, 3, (axF 3 3 (2, 1, 7, some 0))), (.aload_n 0, 1, ax0), (.getfield 43, 3, (axF 3 4 (0, 0, 0, none)))] (pc' := 8) (L' := [some (aR 3 0 49), some (aI v1), none]) (stk' := [aI (σ.1 49 4), aR 7 0 50]) (σ' := σ) (g := []) (by decide +kernel) rfl rfl ?_
  obtain ⟨r7, σ6, h5, h⟩ := bnd_some h
  refine aw_cV (P' := pX7_kind) (idx := 47) (d' := 1) (c := 7) (n := 0) (k := 50) [aI (σ.1 49 4)] [] (ov := (some (aI r7))) (stk2 := [aI r7]) okp_X7_kind (by decide +kernel) ml_RX3_47 vok_X7_kind (by decide) rfl nar_X7_kind (room2_le (d0 := 4 + 1) (by decide) (by omega)) rfl (Nat.le_of_ble_eq_true rfl) (ok_X7_kind h5) rfl ?_
  refine aw_seq [(.istore_n 2, 1, ax0), (.iload_n 2, 1, ax0), (.bipush 43, 2, (axI 43))] (pc' := 15) (L' := [some (aR 3 0 49), some (aI v1), some (aI r7)]) (stk' := [aI 43, aI r7]) (σ' := σ6) (g := []) (by decide +kernel) rfl rfl ?_
  refine aw_icmp_ne (off := 20) (tgt := 35) (by decide +kernel) (by decide) (fun c1 => ?_) (fun c1 => ?_)
  · rw [if_neg c1] at h
    refine aw_seq [(.iload_n 2, 1, ax0), (.bipush 11, 2, (axI 11))] (pc' := 38) (L' := [some (aR 3 0 49), some (aI v1), some (aI r7)]) (stk' := [aI 11, aI r7]) (σ' := σ6) (g := []) (by decide +kernel) rfl rfl ?_
    refine aw_icmp_lt (off := 17) (tgt := 55) (by decide +kernel) (by decide) (fun c1 => ?_) (fun c1 => ?_)
    · rw [if_pos c1] at h
      refine aw_forget (L' := [some (aR 3 0 49), some (aI v1), some (aI r7)]) (lsub_s (lsub_s (lsub_s (lsub_0)))) ?_
      exact ok_X3_one_55 hdd hrc v1 r7 σ6 _ h
    · rw [if_neg c1] at h
      refine aw_seq [(.iload_n 2, 1, ax0), (.bipush 19, 2, (axI 19))] (pc' := 44) (L' := [some (aR 3 0 49), some (aI v1), some (aI r7)]) (stk' := [aI 19, aI r7]) (σ' := σ6) (g := []) (by decide +kernel) rfl rfl ?_
      refine aw_icmp_gt (off := 11) (tgt := 55) (by decide +kernel) (by decide) (fun c1 => ?_) (fun c1 => ?_)
      · rw [if_pos c1] at h
        refine aw_forget (L' := [some (aR 3 0 49), some (aI v1), some (aI r7)]) (lsub_s (lsub_s (lsub_s (lsub_0)))) ?_
        exact ok_X3_one_55 hdd hrc v1 r7 σ6 _ h
      · rw [if_neg c1] at h
        refine aw_seq [(.aload_n 0, 1, ax0), (.iload_n 2, 1, ax0)] (pc' := 49) (L' := [some (aR 3 0 49), some (aI v1), some (aI r7)]) (stk' := [aI r7, aR 3 0 49]) (σ' := σ6) (g := []) (by decide +kernel) rfl rfl ?_
        obtain ⟨σ9, h8, h⟩ := bndV_some h
        refine aw_cV (P' := pX3_name) (idx := 130) (d' := 3) (c := 3) (n := 0) (k := 49) [aI r7] [] (ov := none) (stk2 := []) okp_X3_name (by decide +kernel) ml_RX3_130 vok_X3_name (by decide) rfl nar_X3_name (room2_le (d0 := 4 + 1) (by decide) (by omega)) rfl (Nat.le_of_ble_eq_true rfl) (ok_X3_name h8) rfl ?_
        refine aw_goto (off := 41) (tgt := 93) (by decide +kernel) (by decide) ?_
        refine aw_forget (L' := [none, none, none]) (lsub_n (lsub_n (lsub_n (lsub_0)))) ?_
        exact ok_X3_one_93 hdd hrc σ9 _ h
  · rw [if_pos c1] at h
    refine aw_seq [(.aload_n 0, 1, ax0), (.iload_n 2, 1, ax0), (.aload_n 0, 1, ax0), (.iconst 0, 1, (axI 0)), (.sipush 9999, 3, (axI 9999))] (pc' := 25) (L' := [some (aR 3 0 49), some (aI v1), some (aI r7)]) (stk' := [aI 9999, aI 0, aR 3 0 49, aI r7, aR 3 0 49]) (σ' := σ6) (g := []) (by decide +kernel) rfl rfl ?_
    obtain ⟨r12, σ11, h10, h⟩ := bnd_some h
    refine aw_cV (P' := pX3_takeNumber) (idx := 117) (d' := 3) (c := 3) (n := 0) (k := 49) [aI 0, aI 9999] [aI r7, aR 3 0 49] (ov := (some (aI r12))) (stk2 := [aI r12, aI r7, aR 3 0 49]) okp_X3_takeNumber (by decide +kernel) ml_RX3_117 vok_X3_takeNumber (by decide) rfl nar_X3_takeNumber (room2_le (d0 := 4 + 1) (by decide) (by omega)) rfl (Nat.le_of_ble_eq_true rfl) (ok_X3_takeNumber h10) rfl ?_
    obtain ⟨r15, σ14, h13, h⟩ := bnd_some h
    refine aw_cV (P' := pX3_emit) (idx := 124) (d' := 1) (c := 3) (n := 0) (k := 49) [aI r7, aI r12] [] (ov := (some (aI r15))) (stk2 := [aI r15]) okp_X3_emit (by decide +kernel) ml_RX3_124 vok_X3_emit (by decide) rfl nar_X3_emit (room2_le (d0 := 4 + 1) (by decide) (by omega)) rfl (Nat.le_of_ble_eq_true rfl) (ok_X3_emit h13) rfl ?_
    refine aw_seq [(.pop, 1, ax0)] (pc' := 32) (L' := [some (aR 3 0 49), some (aI v1), some (aI r7)]) (stk' := []) (σ' := σ14) (g := []) (by decide +kernel) rfl rfl ?_
    refine aw_goto (off := 61) (tgt := 93) (by decide +kernel) (by decide) ?_
    refine aw_forget (L' := [none, none, none]) (lsub_n (lsub_n (lsub_n (lsub_0)))) ?_
    exact ok_X3_one_93 hdd hrc σ14 _ h
def f_X3_around_115 (rc : Nat → Int32 → Int32 → Sg → Option Sg)   (σ : Sg) : Option Sg :=
  some σ
set_option maxRecDepth 100000 in
set_option maxHeartbeats 4000000 in
theorem ok_X3_around_115 {κ : Kd}  {dd : Nat} (hdd : 4 ≤ dd) {rc : Nat → Int32 → Int32 → Sg → Option Sg} (hrc : ∀ i a b σ q, rc i a b σ = some q → AMet κ (scP3 i) dd (scA3 i a b) σ (none, q))   : ∀  (σ : Sg) (q : Sg), f_X3_around_115 rc  σ = some q → AW κ pX3_around (dd + 1) (none, q) 115 [none, none, none] [] σ := by
  intro  σ q h
  unfold f_X3_around_115 at h
  cases h
  exact aw_vret rfl (by decide +kernel)
def b_X3_around (rc : Nat → Int32 → Int32 → Sg → Option Sg) (v1 : Int32) (v2 : Int32) (σ : Sg) : Option Sg :=
  if v2 < 8 then (
    ltσ (wI σ 49 4 ((σ.1 49 4) + 1)) fun σ1 =>
    if v1 = 37 then (
      bndV (rc 2 (v2 + 1) 0 σ1) fun σ4 =>
      bnd (f_X3_emit 46 0 σ4) fun r7 σ6 =>
      f_X3_around_115 rc σ6
    ) else (
    if v1 = 40 then (
      bndV (rc 0 (v2 + 1) 0 σ1) fun σ9 =>
      bndV (f_X3_take 41 σ9) fun σ11 =>
      f_X3_around_115 rc σ11
    ) else (
    if v1 = 47 then (
      bndV (rc 2 (v2 + 1) 0 σ1) fun σ13 =>
      bnd (f_X3_emit 47 0 σ13) fun r16 σ15 =>
      f_X3_around_115 rc σ15
    ) else (
      bndV (rc 4 (v2 + 1) 0 σ1) fun σ18 =>
      f_X3_around_115 rc σ18
    )))
  ) else (
    bndV (f_X3_fail 3 σ) fun σ20 =>
    some σ20
  )
set_option maxRecDepth 100000 in
set_option maxHeartbeats 4000000 in
theorem okb_X3_around {κ : Kd} {dd : Nat} (hdd : 4 ≤ dd) {rc : Nat → Int32 → Int32 → Sg → Option Sg} (hrc : ∀ i a b σ q, rc i a b σ = some q → AMet κ (scP3 i) dd (scA3 i a b) σ (none, q)) {v1 : Int32} {v2 : Int32} {σ : Sg} {q : Sg} (h : b_X3_around rc v1 v2 σ = some q) : AMet κ pX3_around (dd + 1) [aR 3 0 49, aI v1, aI v2] σ (none, q) := by
  unfold b_X3_around at h
  refine amet_of okp_X3_around [(false, aR 3 0 49), (false, aI v1), (false, aI v2)] (List.forall_mem_cons.mpr ⟨rfl, List.forall_mem_cons.mpr ⟨rfl, List.forall_mem_cons.mpr ⟨rfl, (fun _ hn => absurd hn List.not_mem_nil)⟩⟩⟩) 0 rfl ?_
  show AW κ pX3_around (dd + 1) (none, q) 0 [some (aR 3 0 49), some (aI v1), some (aI v2)] [] σ
  refine aw_seq [(.iload_n 2, 1, ax0), (.bipush 8, 2, (axI 8))] (pc' := 3) (L' := [some (aR 3 0 49), some (aI v1), some (aI v2)]) (stk' := [aI 8, aI v2]) (σ' := σ) (g := []) (by decide +kernel) rfl rfl ?_
  refine aw_icmp_lt (off := 9) (tgt := 12) (by decide +kernel) (by decide) (fun c1 => ?_) (fun c1 => ?_)
  · rw [if_pos c1] at h
    obtain ⟨σ1, e2, h⟩ := ltσ_some h
    refine aw_seq [(.aload_n 0, 1, ax0), (.dup, 1, ax0), (.getfield 43, 3, (axF 3 4 (0, 0, 0, none))), (.iconst 1, 1, (axI 1)), (.iadd, 1, ax0), (.putfield 43, 3, (axF 3 4 (0, 0, 0, none)))] (pc' := 22) (L' := [some (aR 3 0 49), some (aI v1), some (aI v2)]) (stk' := []) (σ' := σ1) (g := []) (by decide +kernel) (by rw [e2]; rfl) rfl ?_
    refine aw_seq [(.iload_n 1, 1, ax0)] (pc' := 23) (L' := [some (aR 3 0 49), some (aI v1), some (aI v2)]) (stk' := [aI v1]) (σ' := σ1) (g := []) (by decide +kernel) rfl rfl ?_
    refine aw_lookup (dflt := 85) (ps := #[(37, 49), (40, 33), (47, 67)]) (len := 33) (dt := 108) (by decide +kernel) [(37, 72), (40, 56), (47, 90)] (by decide +kernel) ?_
    refine awsw_cons (fun c1 => ?_) (fun c1 => ?_)
    · rw [if_pos c1] at h
      refine aw_seq [(.aload_n 0, 1, ax0), (.iload_n 2, 1, ax0), (.iconst 1, 1, (axI 1)), (.iadd, 1, ax0)] (pc' := 76) (L' := [some (aR 3 0 49), some (aI v1), some (aI v2)]) (stk' := [aI (v2 + 1), aR 3 0 49]) (σ' := σ1) (g := []) (by decide +kernel) rfl rfl ?_
      obtain ⟨σ4, h3, h⟩ := bndV_some h
      refine aw_cV (P' := pX3_one) (idx := 127) (d' := dd) (c := 3) (n := 0) (k := 49) [aI (v2 + 1)] [] (ov := none) (stk2 := []) okp_X3_one (by decide +kernel) ml_RX3_127 vok_X3_one (by decide) rfl nar_X3_one (room2_succ rfl) rfl (Nat.le_of_ble_eq_true rfl) (hrc _ _ _ _ _ h3) rfl ?_
      refine aw_seq [(.aload_n 0, 1, ax0), (.bipush 46, 2, (axI 46)), (.iconst 0, 1, (axI 0))] (pc' := 83) (L' := [some (aR 3 0 49), some (aI v1), some (aI v2)]) (stk' := [aI 0, aI 46, aR 3 0 49]) (σ' := σ4) (g := []) (by decide +kernel) rfl rfl ?_
      obtain ⟨r7, σ6, h5, h⟩ := bnd_some h
      refine aw_cV (P' := pX3_emit) (idx := 124) (d' := 1) (c := 3) (n := 0) (k := 49) [aI 46, aI 0] [] (ov := (some (aI r7))) (stk2 := [aI r7]) okp_X3_emit (by decide +kernel) ml_RX3_124 vok_X3_emit (by decide) rfl nar_X3_emit (room2_le (d0 := 4 + 1) (by decide) (by omega)) rfl (Nat.le_of_ble_eq_true rfl) (ok_X3_emit h5) rfl ?_
      refine aw_seq [(.pop, 1, ax0)] (pc' := 87) (L' := [some (aR 3 0 49), some (aI v1), some (aI v2)]) (stk' := []) (σ' := σ6) (g := []) (by decide +kernel) rfl rfl ?_
      refine aw_goto (off := 28) (tgt := 115) (by decide +kernel) (by decide) ?_
      refine aw_forget (L' := [none, none, none]) (lsub_n (lsub_n (lsub_n (lsub_0)))) ?_
      exact ok_X3_around_115 hdd hrc σ6 _ h
    rw [if_neg c1] at h
    refine awsw_cons (fun c1 => ?_) (fun c1 => ?_)
    · rw [if_pos c1] at h
      refine aw_seq [(.aload_n 0, 1, ax0), (.iload_n 2, 1, ax0), (.iconst 1, 1, (axI 1)), (.iadd, 1, ax0)] (pc' := 60) (L' := [some (aR 3 0 49), some (aI v1), some (aI v2)]) (stk' := [aI (v2 + 1), aR 3 0 49]) (σ' := σ1) (g := []) (by decide +kernel) rfl rfl ?_
      obtain ⟨σ9, h8, h⟩ := bndV_some h
      refine aw_cV (P' := pX3_sum) (idx := 104) (d' := dd) (c := 3) (n := 0) (k := 49) [aI (v2 + 1)] [] (ov := none) (stk2 := []) okp_X3_sum (by decide +kernel) ml_RX3_104 vok_X3_sum (by decide) rfl nar_X3_sum (room2_succ rfl) rfl (Nat.le_of_ble_eq_true rfl) (hrc _ _ _ _ _ h8) rfl ?_
      refine aw_seq [(.aload_n 0, 1, ax0), (.bipush 41, 2, (axI 41))] (pc' := 66) (L' := [some (aR 3 0 49), some (aI v1), some (aI v2)]) (stk' := [aI 41, aR 3 0 49]) (σ' := σ9) (g := []) (by decide +kernel) rfl rfl ?_
      obtain ⟨σ11, h10, h⟩ := bndV_some h
      refine aw_cV (P' := pX3_take) (idx := 114) (d' := 3) (c := 3) (n := 0) (k := 49) [aI 41] [] (ov := none) (stk2 := []) okp_X3_take (by decide +kernel) ml_RX3_114 vok_X3_take (by decide) rfl nar_X3_take (room2_le (d0 := 4 + 1) (by decide) (by omega)) rfl (Nat.le_of_ble_eq_true rfl) (ok_X3_take h10) rfl ?_
      refine aw_goto (off := 46) (tgt := 115) (by decide +kernel) (by decide) ?_
      refine aw_forget (L' := [none, none, none]) (lsub_n (lsub_n (lsub_n (lsub_0)))) ?_
      exact ok_X3_around_115 hdd hrc σ11 _ h
    rw [if_neg c1] at h
    refine awsw_cons (fun c1 => ?_) (fun c1 => ?_)
    · rw [if_pos c1] at h
      refine aw_seq [(.aload_n 0, 1, ax0), (.iload_n 2, 1, ax0), (.iconst 1, 1, (axI 1)), (.iadd, 1, ax0)] (pc' := 94) (L' := [some (aR 3 0 49), some (aI v1), some (aI v2)]) (stk' := [aI (v2 + 1), aR 3 0 49]) (σ' := σ1) (g := []) (by decide +kernel) rfl rfl ?_
      obtain ⟨σ13, h12, h⟩ := bndV_some h
      refine aw_cV (P' := pX3_one) (idx := 127) (d' := dd) (c := 3) (n := 0) (k := 49) [aI (v2 + 1)] [] (ov := none) (stk2 := []) okp_X3_one (by decide +kernel) ml_RX3_127 vok_X3_one (by decide) rfl nar_X3_one (room2_succ rfl) rfl (Nat.le_of_ble_eq_true rfl) (hrc _ _ _ _ _ h12) rfl ?_
      refine aw_seq [(.aload_n 0, 1, ax0), (.bipush 47, 2, (axI 47)), (.iconst 0, 1, (axI 0))] (pc' := 101) (L' := [some (aR 3 0 49), some (aI v1), some (aI v2)]) (stk' := [aI 0, aI 47, aR 3 0 49]) (σ' := σ13) (g := []) (by decide +kernel) rfl rfl ?_
      obtain ⟨r16, σ15, h14, h⟩ := bnd_some h
      refine aw_cV (P' := pX3_emit) (idx := 124) (d' := 1) (c := 3) (n := 0) (k := 49) [aI 47, aI 0] [] (ov := (some (aI r16))) (stk2 := [aI r16]) okp_X3_emit (by decide +kernel) ml_RX3_124 vok_X3_emit (by decide) rfl nar_X3_emit (room2_le (d0 := 4 + 1) (by decide) (by omega)) rfl (Nat.le_of_ble_eq_true rfl) (ok_X3_emit h14) rfl ?_
      refine aw_seq [(.pop, 1, ax0)] (pc' := 105) (L' := [some (aR 3 0 49), some (aI v1), some (aI v2)]) (stk' := []) (σ' := σ15) (g := []) (by decide +kernel) rfl rfl ?_
      refine aw_goto (off := 10) (tgt := 115) (by decide +kernel) (by decide) ?_
      refine aw_forget (L' := [none, none, none]) (lsub_n (lsub_n (lsub_n (lsub_0)))) ?_
      exact ok_X3_around_115 hdd hrc σ15 _ h
    rw [if_neg c1] at h
    refine awsw_nil ?_
    refine aw_seq [(.aload_n 0, 1, ax0), (.iload_n 2, 1, ax0), (.iconst 1, 1, (axI 1)), (.iadd, 1, ax0)] (pc' := 112) (L' := [some (aR 3 0 49), some (aI v1), some (aI v2)]) (stk' := [aI (v2 + 1), aR 3 0 49]) (σ' := σ1) (g := []) (by decide +kernel) rfl rfl ?_
    obtain ⟨σ18, h17, h⟩ := bndV_some h
    refine aw_cV (P' := pX3_choice) (idx := 137) (d' := dd) (c := 3) (n := 0) (k := 49) [aI (v2 + 1)] [] (ov := none) (stk2 := []) okp_X3_choice (by decide +kernel) ml_RX3_137 vok_X3_choice (by decide) rfl nar_X3_choice (room2_succ rfl) rfl (Nat.le_of_ble_eq_true rfl) (hrc _ _ _ _ _ h17) rfl ?_
    refine aw_forget (L' := [none, none, none]) (lsub_n (lsub_n (lsub_n (lsub_0)))) ?_
    exact ok_X3_around_115 hdd hrc σ18 _ h
  · rw [if_neg c1] at h
    refine aw_seq [(.aload_n 0, 1, ax0), (.iconst 3, 1, (axI 3))] (pc' := 8) (L' := [some (aR 3 0 49), some (aI v1), some (aI v2)]) (stk' := [aI 3, aR 3 0 49]) (σ' := σ) (g := []) (by decide +kernel) rfl rfl ?_
    obtain ⟨σ20, h19, h⟩ := bndV_some h
    refine aw_cV (P' := pX3_fail) (idx := 90) (d' := 2) (c := 3) (n := 0) (k := 49) [aI 3] [] (ov := none) (stk2 := []) okp_X3_fail (by decide +kernel) ml_RX3_90 vok_X3_fail (by decide) rfl nar_X3_fail (room2_le (d0 := 4 + 1) (by decide) (by omega)) rfl (Nat.le_of_ble_eq_true rfl) (ok_X3_fail h19) rfl ?_
    cases h
    exact aw_vret rfl (by decide +kernel)
def b_X3_choice (rc : Nat → Int32 → Int32 → Sg → Option Sg) (v1 : Int32) (σ : Sg) : Option Sg :=
  bndV (rc 5 v1 0 σ) fun σ2 =>
  bndV (f_X3_take 25 σ2) fun σ4 =>
  bnd (f_X3_emit 24 0 σ4) fun r7 σ6 =>
  bndV (rc 0 v1 0 σ6) fun σ9 =>
  bndV (f_X3_take 26 σ9) fun σ11 =>
  bnd (f_X3_emit 26 0 σ11) fun r14 σ13 =>
  bndV (f_X3_leadHere r7 σ13) fun σ16 =>
  bndV (rc 0 v1 0 σ16) fun σ18 =>
  bndV (f_X3_take 27 σ18) fun σ20 =>
  bndV (f_X3_leadHere r14 σ20) fun σ22 =>
  some σ22
set_option maxRecDepth 100000 in
set_option maxHeartbeats 4000000 in
theorem okb_X3_choice {κ : Kd} {dd : Nat} (hdd : 4 ≤ dd) {rc : Nat → Int32 → Int32 → Sg → Option Sg} (hrc : ∀ i a b σ q, rc i a b σ = some q → AMet κ (scP3 i) dd (scA3 i a b) σ (none, q)) {v1 : Int32} {σ : Sg} {q : Sg} (h : b_X3_choice rc v1 σ = some q) : AMet κ pX3_choice (dd + 1) [aR 3 0 49, aI v1] σ (none, q) := by
  unfold b_X3_choice at h
  refine amet_of okp_X3_choice [(false, aR 3 0 49), (false, aI v1)] (List.forall_mem_cons.mpr ⟨rfl, List.forall_mem_cons.mpr ⟨rfl, (fun _ hn => absurd hn List.not_mem_nil)⟩⟩) 2 rfl ?_
  show AW κ pX3_choice (dd + 1) (none, q) 0 [some (aR 3 0 49), some (aI v1), none, none] [] σ
  refine aw_seq [(.aload_n 0, 1, ax0), (.iload_n 1, 1, ax0)] (pc' := 2) (L' := [some (aR 3 0 49), some (aI v1), none, none]) (stk' := [aI v1, aR 3 0 49]) (σ' := σ) (g := []) (by decide +kernel) rfl rfl ?_
  obtain ⟨σ2, h1, h⟩ := bndV_some h
  refine aw_cV (P' := pX3_either) (idx := 140) (d' := dd) (c := 3) (n := 0) (k := 49) [aI v1] [] (ov := none) (stk2 := []) okp_X3_either (by decide +kernel) ml_RX3_140 vok_X3_either (by decide) rfl nar_X3_either (room2_succ rfl) rfl (Nat.le_of_ble_eq_true rfl) (hrc _ _ _ _ _ h1) rfl ?_
  refine aw_seq [(.aload_n 0, 1, ax0), (.bipush 25, 2, (axI 25))] (pc' := 8) (L' := [some (aR 3 0 49), some (aI v1), none, none]) (stk' := [aI 25, aR 3 0 49]) (σ' := σ2) (g := []) (by decide +kernel) rfl rfl ?_
  obtain ⟨σ4, h3, h⟩ := bndV_some h
  refine aw_cV (P' := pX3_take) (idx := 114) (d' := 3) (c := 3) (n := 0) (k := 49) [aI 25] [] (ov := none) (stk2 := []) okp_X3_take (by decide +kernel) ml_RX3_114 vok_X3_take (by decide) rfl nar_X3_take (room2_le (d0 := 4 + 1) (by decide) (by omega)) rfl (Nat.le_of_ble_eq_true rfl) (ok_X3_take h3) rfl ?_
  refine aw_seq [(.aload_n 0, 1, ax0), (.bipush 24, 2, (axI 24)), (.iconst 0, 1, (axI 0))] (pc' := 15) (L' := [some (aR 3 0 49), some (aI v1), none, none]) (stk' := [aI 0, aI 24, aR 3 0 49]) (σ' := σ4) (g := []) (by decide +kernel) rfl rfl ?_
  obtain ⟨r7, σ6, h5, h⟩ := bnd_some h
  refine aw_cV (P' := pX3_emit) (idx := 124) (d' := 1) (c := 3) (n := 0) (k := 49) [aI 24, aI 0] [] (ov := (some (aI r7))) (stk2 := [aI r7]) okp_X3_emit (by decide +kernel) ml_RX3_124 vok_X3_emit (by decide) rfl nar_X3_emit (room2_le (d0 := 4 + 1) (by decide) (by omega)) rfl (Nat.le_of_ble_eq_true rfl) (ok_X3_emit h5) rfl ?_
  refine aw_seq [(.istore_n 2, 1, ax0), (.aload_n 0, 1, ax0), (.iload_n 1, 1, ax0)] (pc' := 21) (L' := [some (aR 3 0 49), some (aI v1), some (aI r7), none]) (stk' := [aI v1, aR 3 0 49]) (σ' := σ6) (g := []) (by decide +kernel) rfl rfl ?_
  obtain ⟨σ9, h8, h⟩ := bndV_some h
  refine aw_cV (P' := pX3_sum) (idx := 104) (d' := dd) (c := 3) (n := 0) (k := 49) [aI v1] [] (ov := none) (stk2 := []) okp_X3_sum (by decide +kernel) ml_RX3_104 vok_X3_sum (by decide) rfl nar_X3_sum (room2_succ rfl) rfl (Nat.le_of_ble_eq_true rfl) (hrc _ _ _ _ _ h8) rfl ?_
  refine aw_seq [(.aload_n 0, 1, ax0), (.bipush 26, 2, (axI 26))] (pc' := 27) (L' := [some (aR 3 0 49), some (aI v1), some (aI r7), none]) (stk' := [aI 26, aR 3 0 49]) (σ' := σ9) (g := []) (by decide +kernel) rfl rfl ?_
  obtain ⟨σ11, h10, h⟩ := bndV_some h
  refine aw_cV (P' := pX3_take) (idx := 114) (d' := 3) (c := 3) (n := 0) (k := 49) [aI 26] [] (ov := none) (stk2 := []) okp_X3_take (by decide +kernel) ml_RX3_114 vok_X3_take (by decide) rfl nar_X3_take (room2_le (d0 := 4 + 1) (by decide) (by omega)) rfl (Nat.le_of_ble_eq_true rfl) (ok_X3_take h10) rfl ?_
  refine aw_seq [(.aload_n 0, 1, ax0), (.bipush 26, 2, (axI 26)), (.iconst 0, 1, (axI 0))] (pc' := 34) (L' := [some (aR 3 0 49), some (aI v1), some (aI r7), none]) (stk' := [aI 0, aI 26, aR 3 0 49]) (σ' := σ11) (g := []) (by decide +kernel) rfl rfl ?_
  obtain ⟨r14, σ13, h12, h⟩ := bnd_some h
  refine aw_cV (P' := pX3_emit) (idx := 124) (d' := 1) (c := 3) (n := 0) (k := 49) [aI 26, aI 0] [] (ov := (some (aI r14))) (stk2 := [aI r14]) okp_X3_emit (by decide +kernel) ml_RX3_124 vok_X3_emit (by decide) rfl nar_X3_emit (room2_le (d0 := 4 + 1) (by decide) (by omega)) rfl (Nat.le_of_ble_eq_true rfl) (ok_X3_emit h12) rfl ?_
  refine aw_seq [(.istore_n 3, 1, ax0), (.aload_n 0, 1, ax0), (.iload_n 2, 1, ax0)] (pc' := 40) (L' := [some (aR 3 0 49), some (aI v1), some (aI r7), some (aI r14)]) (stk' := [aI r7, aR 3 0 49]) (σ' := σ13) (g := []) (by decide +kernel) rfl rfl ?_
  obtain ⟨σ16, h15, h⟩ := bndV_some h
  refine aw_cV (P' := pX3_leadHere) (idx := 143) (d' := 2) (c := 3) (n := 0) (k := 49) [aI r7] [] (ov := none) (stk2 := []) okp_X3_leadHere (by decide +kernel) ml_RX3_143 vok_X3_leadHere (by decide) rfl nar_X3_leadHere (room2_le (d0 := 4 + 1) (by decide) (by omega)) rfl (Nat.le_of_ble_eq_true rfl) (ok_X3_leadHere h15) rfl ?_
  refine aw_seq [(.aload_n 0, 1, ax0), (.iload_n 1, 1, ax0)] (pc' := 45) (L' := [some (aR 3 0 49), some (aI v1), some (aI r7), some (aI r14)]) (stk' := [aI v1, aR 3 0 49]) (σ' := σ16) (g := []) (by decide +kernel) rfl rfl ?_
  obtain ⟨σ18, h17, h⟩ := bndV_some h
  refine aw_cV (P' := pX3_sum) (idx := 104) (d' := dd) (c := 3) (n := 0) (k := 49) [aI v1] [] (ov := none) (stk2 := []) okp_X3_sum (by decide +kernel) ml_RX3_104 vok_X3_sum (by decide) rfl nar_X3_sum (room2_succ rfl) rfl (Nat.le_of_ble_eq_true rfl) (hrc _ _ _ _ _ h17) rfl ?_
  refine aw_seq [(.aload_n 0, 1, ax0), (.bipush 27, 2, (axI 27))] (pc' := 51) (L' := [some (aR 3 0 49), some (aI v1), some (aI r7), some (aI r14)]) (stk' := [aI 27, aR 3 0 49]) (σ' := σ18) (g := []) (by decide +kernel) rfl rfl ?_
  obtain ⟨σ20, h19, h⟩ := bndV_some h
  refine aw_cV (P' := pX3_take) (idx := 114) (d' := 3) (c := 3) (n := 0) (k := 49) [aI 27] [] (ov := none) (stk2 := []) okp_X3_take (by decide +kernel) ml_RX3_114 vok_X3_take (by decide) rfl nar_X3_take (room2_le (d0 := 4 + 1) (by decide) (by omega)) rfl (Nat.le_of_ble_eq_true rfl) (ok_X3_take h19) rfl ?_
  refine aw_seq [(.aload_n 0, 1, ax0), (.iload_n 3, 1, ax0)] (pc' := 56) (L' := [some (aR 3 0 49), some (aI v1), some (aI r7), some (aI r14)]) (stk' := [aI r14, aR 3 0 49]) (σ' := σ20) (g := []) (by decide +kernel) rfl rfl ?_
  obtain ⟨σ22, h21, h⟩ := bndV_some h
  refine aw_cV (P' := pX3_leadHere) (idx := 143) (d' := 2) (c := 3) (n := 0) (k := 49) [aI r14] [] (ov := none) (stk2 := []) okp_X3_leadHere (by decide +kernel) ml_RX3_143 vok_X3_leadHere (by decide) rfl nar_X3_leadHere (room2_le (d0 := 4 + 1) (by decide) (by omega)) rfl (Nat.le_of_ble_eq_true rfl) (ok_X3_leadHere h21) rfl ?_
  cases h
  exact aw_vret rfl (by decide +kernel)
def f_X3_either_58 (rc : Nat → Int32 → Int32 → Sg → Option Sg)   (σ : Sg) : Option Sg :=
  some σ
set_option maxRecDepth 100000 in
set_option maxHeartbeats 4000000 in
theorem ok_X3_either_58 {κ : Kd}  {dd : Nat} (hdd : 4 ≤ dd) {rc : Nat → Int32 → Int32 → Sg → Option Sg} (hrc : ∀ i a b σ q, rc i a b σ = some q → AMet κ (scP3 i) dd (scA3 i a b) σ (none, q))   : ∀  (σ : Sg) (q : Sg), f_X3_either_58 rc  σ = some q → AW κ pX3_either (dd + 1) (none, q) 58 [none, none, none] [] σ := by
  intro  σ q h
  unfold f_X3_either_58 at h
  cases h
  exact aw_vret rfl (by decide +kernel)
def f_X3_either_9 (rc : Nat → Int32 → Int32 → Sg → Option Sg)  : Nat → Int32 → Int32 → Sg → Option Sg
  | 0, _, _, _ => none
  | fu + 1, v1, v2, σ =>
    if v2 ≤ 0 then (
      f_X3_either_58 rc σ
    ) else (
      bnd (f_X7_kind (σ.1 49 4) σ) fun r3 σ2 =>
      if r3 = 29 then (
        ltσ (wI σ2 49 4 ((σ2.1 49 4) + 1)) fun σ4 =>
        bndV (rc 6 v1 0 σ4) fun σ7 =>
        bnd (f_X3_emit 29 0 σ7) fun r10 σ9 =>
        (f_X3_either_9 rc fu) v1 (v2 + (-1)) σ9
      ) else (
        f_X3_either_58 rc σ2
      )
    )
set_option maxRecDepth 100000 in
set_option maxHeartbeats 4000000 in
theorem ok_X3_either_9 {κ : Kd}  {dd : Nat} (hdd : 4 ≤ dd) {rc : Nat → Int32 → Int32 → Sg → Option Sg} (hrc : ∀ i a b σ q, rc i a b σ = some q → AMet κ (scP3 i) dd (scA3 i a b) σ (none, q))   : ∀ (fu : Nat) (v1 : Int32) (v2 : Int32) (σ : Sg) (q : Sg), f_X3_either_9 rc fu v1 v2 σ = some q → AW κ pX3_either (dd + 1) (none, q) 9 [some (aR 3 0 49), some (aI v1), some (aI v2)] [] σ := by
  intro fu
  induction fu with
  | zero =>
    intro v1 v2 σ q h
    unfold f_X3_either_9 at h
    cases h
  | succ fu ih =>
    intro v1 v2 σ q h
    unfold f_X3_either_9 at h
    refine aw_seq [(.iload_n 2, 1, ax0)] (pc' := 10) (L' := [some (aR 3 0 49), some (aI v1), some (aI v2)]) (stk' := [aI v2]) (σ' := σ) (g := []) (by decide +kernel) rfl rfl ?_
    refine aw_if_le (off := 48) (tgt := 58) (by decide +kernel) (by decide) (fun c1 => ?_) (fun c1 => ?_)
    · rw [if_pos c1] at h
      refine aw_forget (L' := [none, none, none]) (lsub_n (lsub_n (lsub_n (lsub_0)))) ?_
      exact ok_X3_either_58 hdd hrc σ _ h
    · rw [if_neg c1] at h
      refine aw_seq [(.aload_n 0, 1, ax0), (.getfield 12, 3, (axF 3 3 (2, 1, 7, some 0))), (.aload_n 0, 1, ax0), (.getfield 43, 3, (axF 3 4 (0, 0, 0, none)))] (pc' := 21) (L' := [some (aR 3 0 49), some (aI v1), some (aI v2)]) (stk' := [aI (σ.1 49 4), aR 7 0 50]) (σ' := σ) (g := []) (by decide +kernel) rfl rfl ?_
      obtain ⟨r3, σ2, h1, h⟩ := bnd_some h
      refine aw_cV (P' := pX7_kind) (idx := 47) (d' := 1) (c := 7) (n := 0) (k := 50) [aI (σ.1 49 4)] [] (ov := (some (aI r3))) (stk2 := [aI r3]) okp_X7_kind (by decide +kernel) ml_RX3_47 vok_X7_kind (by decide) rfl nar_X7_kind (room2_le (d0 := 4 + 1) (by decide) (by omega)) rfl (Nat.le_of_ble_eq_true rfl) (ok_X7_kind h1) rfl ?_
      refine aw_seq [(.bipush 29, 2, (axI 29))] (pc' := 26) (L' := [some (aR 3 0 49), some (aI v1), some (aI v2)]) (stk' := [aI 29, aI r3]) (σ' := σ2) (g := []) (by decide +kernel) rfl rfl ?_
      refine aw_icmp_ne (off := 32) (tgt := 58) (by decide +kernel) (by decide) (fun c1 => ?_) (fun c1 => ?_)
      · rw [if_neg c1] at h
        refine aw_forget (L' := [none, none, none]) (lsub_n (lsub_n (lsub_n (lsub_0)))) ?_
        exact ok_X3_either_58 hdd hrc σ2 _ h
      · rw [if_pos c1] at h
        obtain ⟨σ4, e5, h⟩ := ltσ_some h
        refine aw_seq [(.aload_n 0, 1, ax0), (.dup, 1, ax0), (.getfield 43, 3, (axF 3 4 (0, 0, 0, none))), (.iconst 1, 1, (axI 1)), (.iadd, 1, ax0), (.putfield 43, 3, (axF 3 4 (0, 0, 0, none)))] (pc' := 39) (L' := [some (aR 3 0 49), some (aI v1), some (aI v2)]) (stk' := []) (σ' := σ4) (g := []) (by decide +kernel) (by rw [e5]; rfl) rfl ?_
        refine aw_seq [(.aload_n 0, 1, ax0), (.iload_n 1, 1, ax0)] (pc' := 41) (L' := [some (aR 3 0 49), some (aI v1), some (aI v2)]) (stk' := [aI v1, aR 3 0 49]) (σ' := σ4) (g := []) (by decide +kernel) rfl rfl ?_
        obtain ⟨σ7, h6, h⟩ := bndV_some h
        refine aw_cV (P' := pX3_both) (idx := 146) (d' := dd) (c := 3) (n := 0) (k := 49) [aI v1] [] (ov := none) (stk2 := []) okp_X3_both (by decide +kernel) ml_RX3_146 vok_X3_both (by decide) rfl nar_X3_both (room2_succ rfl) rfl (Nat.le_of_ble_eq_true rfl) (hrc _ _ _ _ _ h6) rfl ?_
        refine aw_seq [(.aload_n 0, 1, ax0), (.bipush 29, 2, (axI 29)), (.iconst 0, 1, (axI 0))] (pc' := 48) (L' := [some (aR 3 0 49), some (aI v1), some (aI v2)]) (stk' := [aI 0, aI 29, aR 3 0 49]) (σ' := σ7) (g := []) (by decide +kernel) rfl rfl ?_
        obtain ⟨r10, σ9, h8, h⟩ := bnd_some h
        refine aw_cV (P' := pX3_emit) (idx := 124) (d' := 1) (c := 3) (n := 0) (k := 49) [aI 29, aI 0] [] (ov := (some (aI r10))) (stk2 := [aI r10]) okp_X3_emit (by decide +kernel) ml_RX3_124 vok_X3_emit (by decide) rfl nar_X3_emit (room2_le (d0 := 4 + 1) (by decide) (by omega)) rfl (Nat.le_of_ble_eq_true rfl) (ok_X3_emit h8) rfl ?_
        refine aw_seq [(.pop, 1, ax0), (.iinc 2 (-1), 3, (axI (-1)))] (pc' := 55) (L' := [some (aR 3 0 49), some (aI v1), some (aI (v2 + (-1)))]) (stk' := []) (σ' := σ9) (g := []) (by decide +kernel) rfl rfl ?_
        refine aw_goto (off := (-46)) (tgt := 9) (by decide +kernel) (by decide) ?_
        refine aw_forget (L' := [some (aR 3 0 49), some (aI v1), some (aI (v2 + (-1)))]) (lsub_s (lsub_s (lsub_s (lsub_0)))) ?_
        exact ih v1 (v2 + (-1)) σ9 _ h
def b_X3_either (rc : Nat → Int32 → Int32 → Sg → Option Sg) (v1 : Int32) (σ : Sg) : Option Sg :=
  bndV (rc 6 v1 0 σ) fun σ12 =>
  f_X3_either_9 rc FU v1 300 σ12
set_option maxRecDepth 100000 in
set_option maxHeartbeats 4000000 in
theorem okb_X3_either {κ : Kd} {dd : Nat} (hdd : 4 ≤ dd) {rc : Nat → Int32 → Int32 → Sg → Option Sg} (hrc : ∀ i a b σ q, rc i a b σ = some q → AMet κ (scP3 i) dd (scA3 i a b) σ (none, q)) {v1 : Int32} {σ : Sg} {q : Sg} (h : b_X3_either rc v1 σ = some q) : AMet κ pX3_either (dd + 1) [aR 3 0 49, aI v1] σ (none, q) := by
  unfold b_X3_either at h
  refine amet_of okp_X3_either [(false, aR 3 0 49), (false, aI v1)] (List.forall_mem_cons.mpr ⟨rfl, List.forall_mem_cons.mpr ⟨rfl, (fun _ hn => absurd hn List.not_mem_nil)⟩⟩) 1 rfl ?_
  show AW κ pX3_either (dd + 1) (none, q) 0 [some (aR 3 0 49), some (aI v1), none] [] σ
  refine aw_seq [(.aload_n 0, 1, ax0), (.iload_n 1, 1, ax0)] (pc' := 2) (L' := [some (aR 3 0 49), some (aI v1), none]) (stk' := [aI v1, aR 3 0 49]) (σ' := σ) (g := []) (by decide +kernel) rfl rfl ?_
  obtain ⟨σ12, h11, h⟩ := bndV_some h
  refine aw_cV (P' := pX3_both) (idx := 146) (d' := dd) (c := 3) (n := 0) (k := 49) [aI v1] [] (ov := none) (stk2 := []) okp_X3_both (by decide +kernel) ml_RX3_146 vok_X3_both (by decide) rfl nar_X3_both (room2_succ rfl) rfl (Nat.le_of_ble_eq_true rfl) (hrc _ _ _ _ _ h11) rfl ?_
  refine aw_seq [(.sipush 300, 3, (axI 300)), (.istore_n 2, 1, ax0)] (pc' := 9) (L' := [some (aR 3 0 49), some (aI v1), some (aI 300)]) (stk' := []) (σ' := σ12) (g := []) (by decide +kernel) rfl rfl ?_
  refine aw_forget (L' := [some (aR 3 0 49), some (aI v1), some (aI 300)]) (lsub_s (lsub_s (lsub_s (lsub_0)))) ?_
  exact ok_X3_either_9 hdd hrc FU v1 300 σ12 _ h
def f_X3_both_58 (rc : Nat → Int32 → Int32 → Sg → Option Sg)   (σ : Sg) : Option Sg :=
  some σ
set_option maxRecDepth 100000 in
set_option maxHeartbeats 4000000 in
theorem ok_X3_both_58 {κ : Kd}  {dd : Nat} (hdd : 4 ≤ dd) {rc : Nat → Int32 → Int32 → Sg → Option Sg} (hrc : ∀ i a b σ q, rc i a b σ = some q → AMet κ (scP3 i) dd (scA3 i a b) σ (none, q))   : ∀  (σ : Sg) (q : Sg), f_X3_both_58 rc  σ = some q → AW κ pX3_both (dd + 1) (none, q) 58 [none, none, none] [] σ := by
  intro  σ q h
  unfold f_X3_both_58 at h
  cases h
  exact aw_vret rfl (by decide +kernel)
def f_X3_both_9 (rc : Nat → Int32 → Int32 → Sg → Option Sg)  : Nat → Int32 → Int32 → Sg → Option Sg
  | 0, _, _, _ => none
  | fu + 1, v1, v2, σ =>
    if v2 ≤ 0 then (
      f_X3_both_58 rc σ
    ) else (
      bnd (f_X7_kind (σ.1 49 4) σ) fun r3 σ2 =>
      if r3 = 28 then (
        ltσ (wI σ2 49 4 ((σ2.1 49 4) + 1)) fun σ4 =>
        bndV (rc 7 v1 0 σ4) fun σ7 =>
        bnd (f_X3_emit 28 0 σ7) fun r10 σ9 =>
        (f_X3_both_9 rc fu) v1 (v2 + (-1)) σ9
      ) else (
        f_X3_both_58 rc σ2
      )
    )
set_option maxRecDepth 100000 in
set_option maxHeartbeats 4000000 in
theorem ok_X3_both_9 {κ : Kd}  {dd : Nat} (hdd : 4 ≤ dd) {rc : Nat → Int32 → Int32 → Sg → Option Sg} (hrc : ∀ i a b σ q, rc i a b σ = some q → AMet κ (scP3 i) dd (scA3 i a b) σ (none, q))   : ∀ (fu : Nat) (v1 : Int32) (v2 : Int32) (σ : Sg) (q : Sg), f_X3_both_9 rc fu v1 v2 σ = some q → AW κ pX3_both (dd + 1) (none, q) 9 [some (aR 3 0 49), some (aI v1), some (aI v2)] [] σ := by
  intro fu
  induction fu with
  | zero =>
    intro v1 v2 σ q h
    unfold f_X3_both_9 at h
    cases h
  | succ fu ih =>
    intro v1 v2 σ q h
    unfold f_X3_both_9 at h
    refine aw_seq [(.iload_n 2, 1, ax0)] (pc' := 10) (L' := [some (aR 3 0 49), some (aI v1), some (aI v2)]) (stk' := [aI v2]) (σ' := σ) (g := []) (by decide +kernel) rfl rfl ?_
    refine aw_if_le (off := 48) (tgt := 58) (by decide +kernel) (by decide) (fun c1 => ?_) (fun c1 => ?_)
    · rw [if_pos c1] at h
      refine aw_forget (L' := [none, none, none]) (lsub_n (lsub_n (lsub_n (lsub_0)))) ?_
      exact ok_X3_both_58 hdd hrc σ _ h
    · rw [if_neg c1] at h
      refine aw_seq [(.aload_n 0, 1, ax0), (.getfield 12, 3, (axF 3 3 (2, 1, 7, some 0))), (.aload_n 0, 1, ax0), (.getfield 43, 3, (axF 3 4 (0, 0, 0, none)))] (pc' := 21) (L' := [some (aR 3 0 49), some (aI v1), some (aI v2)]) (stk' := [aI (σ.1 49 4), aR 7 0 50]) (σ' := σ) (g := []) (by decide +kernel) rfl rfl ?_
      obtain ⟨r3, σ2, h1, h⟩ := bnd_some h
      refine aw_cV (P' := pX7_kind) (idx := 47) (d' := 1) (c := 7) (n := 0) (k := 50) [aI (σ.1 49 4)] [] (ov := (some (aI r3))) (stk2 := [aI r3]) okp_X7_kind (by decide +kernel) ml_RX3_47 vok_X7_kind (by decide) rfl nar_X7_kind (room2_le (d0 := 4 + 1) (by decide) (by omega)) rfl (Nat.le_of_ble_eq_true rfl) (ok_X7_kind h1) rfl ?_
      refine aw_seq [(.bipush 28, 2, (axI 28))] (pc' := 26) (L' := [some (aR 3 0 49), some (aI v1), some (aI v2)]) (stk' := [aI 28, aI r3]) (σ' := σ2) (g := []) (by decide +kernel) rfl rfl ?_
      refine aw_icmp_ne (off := 32) (tgt := 58) (by decide +kernel) (by decide) (fun c1 => ?_) (fun c1 => ?_)
      · rw [if_neg c1] at h
        refine aw_forget (L' := [none, none, none]) (lsub_n (lsub_n (lsub_n (lsub_0)))) ?_
        exact ok_X3_both_58 hdd hrc σ2 _ h
      · rw [if_pos c1] at h
        obtain ⟨σ4, e5, h⟩ := ltσ_some h
        refine aw_seq [(.aload_n 0, 1, ax0), (.dup, 1, ax0), (.getfield 43, 3, (axF 3 4 (0, 0, 0, none))), (.iconst 1, 1, (axI 1)), (.iadd, 1, ax0), (.putfield 43, 3, (axF 3 4 (0, 0, 0, none)))] (pc' := 39) (L' := [some (aR 3 0 49), some (aI v1), some (aI v2)]) (stk' := []) (σ' := σ4) (g := []) (by decide +kernel) (by rw [e5]; rfl) rfl ?_
        refine aw_seq [(.aload_n 0, 1, ax0), (.iload_n 1, 1, ax0)] (pc' := 41) (L' := [some (aR 3 0 49), some (aI v1), some (aI v2)]) (stk' := [aI v1, aR 3 0 49]) (σ' := σ4) (g := []) (by decide +kernel) rfl rfl ?_
        obtain ⟨σ7, h6, h⟩ := bndV_some h
        refine aw_cV (P' := pX3_ask) (idx := 149) (d' := dd) (c := 3) (n := 0) (k := 49) [aI v1] [] (ov := none) (stk2 := []) okp_X3_ask (by decide +kernel) ml_RX3_149 vok_X3_ask (by decide) rfl nar_X3_ask (room2_succ rfl) rfl (Nat.le_of_ble_eq_true rfl) (hrc _ _ _ _ _ h6) rfl ?_
        refine aw_seq [(.aload_n 0, 1, ax0), (.bipush 28, 2, (axI 28)), (.iconst 0, 1, (axI 0))] (pc' := 48) (L' := [some (aR 3 0 49), some (aI v1), some (aI v2)]) (stk' := [aI 0, aI 28, aR 3 0 49]) (σ' := σ7) (g := []) (by decide +kernel) rfl rfl ?_
        obtain ⟨r10, σ9, h8, h⟩ := bnd_some h
        refine aw_cV (P' := pX3_emit) (idx := 124) (d' := 1) (c := 3) (n := 0) (k := 49) [aI 28, aI 0] [] (ov := (some (aI r10))) (stk2 := [aI r10]) okp_X3_emit (by decide +kernel) ml_RX3_124 vok_X3_emit (by decide) rfl nar_X3_emit (room2_le (d0 := 4 + 1) (by decide) (by omega)) rfl (Nat.le_of_ble_eq_true rfl) (ok_X3_emit h8) rfl ?_
        refine aw_seq [(.pop, 1, ax0), (.iinc 2 (-1), 3, (axI (-1)))] (pc' := 55) (L' := [some (aR 3 0 49), some (aI v1), some (aI (v2 + (-1)))]) (stk' := []) (σ' := σ9) (g := []) (by decide +kernel) rfl rfl ?_
        refine aw_goto (off := (-46)) (tgt := 9) (by decide +kernel) (by decide) ?_
        refine aw_forget (L' := [some (aR 3 0 49), some (aI v1), some (aI (v2 + (-1)))]) (lsub_s (lsub_s (lsub_s (lsub_0)))) ?_
        exact ih v1 (v2 + (-1)) σ9 _ h
def b_X3_both (rc : Nat → Int32 → Int32 → Sg → Option Sg) (v1 : Int32) (σ : Sg) : Option Sg :=
  bndV (rc 7 v1 0 σ) fun σ12 =>
  f_X3_both_9 rc FU v1 300 σ12
set_option maxRecDepth 100000 in
set_option maxHeartbeats 4000000 in
theorem okb_X3_both {κ : Kd} {dd : Nat} (hdd : 4 ≤ dd) {rc : Nat → Int32 → Int32 → Sg → Option Sg} (hrc : ∀ i a b σ q, rc i a b σ = some q → AMet κ (scP3 i) dd (scA3 i a b) σ (none, q)) {v1 : Int32} {σ : Sg} {q : Sg} (h : b_X3_both rc v1 σ = some q) : AMet κ pX3_both (dd + 1) [aR 3 0 49, aI v1] σ (none, q) := by
  unfold b_X3_both at h
  refine amet_of okp_X3_both [(false, aR 3 0 49), (false, aI v1)] (List.forall_mem_cons.mpr ⟨rfl, List.forall_mem_cons.mpr ⟨rfl, (fun _ hn => absurd hn List.not_mem_nil)⟩⟩) 1 rfl ?_
  show AW κ pX3_both (dd + 1) (none, q) 0 [some (aR 3 0 49), some (aI v1), none] [] σ
  refine aw_seq [(.aload_n 0, 1, ax0), (.iload_n 1, 1, ax0)] (pc' := 2) (L' := [some (aR 3 0 49), some (aI v1), none]) (stk' := [aI v1, aR 3 0 49]) (σ' := σ) (g := []) (by decide +kernel) rfl rfl ?_
  obtain ⟨σ12, h11, h⟩ := bndV_some h
  refine aw_cV (P' := pX3_ask) (idx := 149) (d' := dd) (c := 3) (n := 0) (k := 49) [aI v1] [] (ov := none) (stk2 := []) okp_X3_ask (by decide +kernel) ml_RX3_149 vok_X3_ask (by decide) rfl nar_X3_ask (room2_succ rfl) rfl (Nat.le_of_ble_eq_true rfl) (hrc _ _ _ _ _ h11) rfl ?_
  refine aw_seq [(.sipush 300, 3, (axI 300)), (.istore_n 2, 1, ax0)] (pc' := 9) (L' := [some (aR 3 0 49), some (aI v1), some (aI 300)]) (stk' := []) (σ' := σ12) (g := []) (by decide +kernel) rfl rfl ?_
  refine aw_forget (L' := [some (aR 3 0 49), some (aI v1), some (aI 300)]) (lsub_s (lsub_s (lsub_s (lsub_0)))) ?_
  exact ok_X3_both_9 hdd hrc FU v1 300 σ12 _ h
def f_X3_ask_36 (rc : Nat → Int32 → Int32 → Sg → Option Sg)  (v1 : Int32) (v2 : Int32) (σ : Sg) : Option Sg :=
  ltσ (wI σ 49 4 ((σ.1 49 4) + 1)) fun σ1 =>
  bndV (rc 0 v1 0 σ1) fun σ4 =>
  bnd (f_X3_emit v2 0 σ4) fun r7 σ6 =>
  some σ6
set_option maxRecDepth 100000 in
set_option maxHeartbeats 4000000 in
theorem ok_X3_ask_36 {κ : Kd}  {dd : Nat} (hdd : 4 ≤ dd) {rc : Nat → Int32 → Int32 → Sg → Option Sg} (hrc : ∀ i a b σ q, rc i a b σ = some q → AMet κ (scP3 i) dd (scA3 i a b) σ (none, q))   : ∀ (v1 : Int32) (v2 : Int32) (σ : Sg) (q : Sg), f_X3_ask_36 rc v1 v2 σ = some q → AW κ pX3_ask (dd + 1) (none, q) 36 [some (aR 3 0 49), some (aI v1), some (aI v2), none] [] σ := by
  intro v1 v2 σ q h
  unfold f_X3_ask_36 at h
  obtain ⟨σ1, e2, h⟩ := ltσ_some h
  refine aw_seq [(.aload_n 0, 1, ax0), (.dup, 1, ax0), (.getfield 43, 3, (axF 3 4 (0, 0, 0, none))), (.iconst 1, 1, (axI 1)), (.iadd, 1, ax0), (.putfield 43, 3, (axF 3 4 (0, 0, 0, none)))] (pc' := 46) (L' := [some (aR 3 0 49), some (aI v1), some (aI v2), none]) (stk' := []) (σ' := σ1) (g := []) (by decide +kernel) (by rw [e2]; rfl) rfl ?_
  refine aw_seq [(.aload_n 0, 1, ax0), (.iload_n 1, 1, ax0)] (pc' := 48) (L' := [some (aR 3 0 49), some (aI v1), some (aI v2), none]) (stk' := [aI v1, aR 3 0 49]) (σ' := σ1) (g := []) (by decide +kernel) rfl rfl ?_
  obtain ⟨σ4, h3, h⟩ := bndV_some h
  refine aw_cV (P' := pX3_sum) (idx := 104) (d' := dd) (c := 3) (n := 0) (k := 49) [aI v1] [] (ov := none) (stk2 := []) okp_X3_sum (by decide +kernel) ml_RX3_104 vok_X3_sum (by decide) rfl nar_X3_sum (room2_succ rfl) rfl (Nat.le_of_ble_eq_true rfl) (hrc _ _ _ _ _ h3) rfl ?_
  refine aw_seq [(.aload_n 0, 1, ax0), (.iload_n 2, 1, ax0), (.iconst 0, 1, (axI 0))] (pc' := 54) (L' := [some (aR 3 0 49), some (aI v1), some (aI v2), none]) (stk' := [aI 0, aI v2, aR 3 0 49]) (σ' := σ4) (g := []) (by decide +kernel) rfl rfl ?_
  obtain ⟨r7, σ6, h5, h⟩ := bnd_some h
  refine aw_cV (P' := pX3_emit) (idx := 124) (d' := 1) (c := 3) (n := 0) (k := 49) [aI v2, aI 0] [] (ov := (some (aI r7))) (stk2 := [aI r7]) okp_X3_emit (by decide +kernel) ml_RX3_124 vok_X3_emit (by decide) rfl nar_X3_emit (room2_le (d0 := 4 + 1) (by decide) (by omega)) rfl (Nat.le_of_ble_eq_true rfl) (ok_X3_emit h5) rfl ?_
  refine aw_seq [(.pop, 1, ax0)] (pc' := 58) (L' := [some (aR 3 0 49), some (aI v1), some (aI v2), none]) (stk' := []) (σ' := σ6) (g := []) (by decide +kernel) rfl rfl ?_
  cases h
  exact aw_vret rfl (by decide +kernel)
def f_X3_ask_88 (rc : Nat → Int32 → Int32 → Sg → Option Sg)   (σ : Sg) : Option Sg :=
  bndV (f_X3_fail 1 σ) fun σ9 =>
  some σ9
set_option maxRecDepth 100000 in
set_option maxHeartbeats 4000000 in
theorem ok_X3_ask_88 {κ : Kd}  {dd : Nat} (hdd : 4 ≤ dd) {rc : Nat → Int32 → Int32 → Sg → Option Sg} (hrc : ∀ i a b σ q, rc i a b σ = some q → AMet κ (scP3 i) dd (scA3 i a b) σ (none, q))   : ∀  (σ : Sg) (q : Sg), f_X3_ask_88 rc  σ = some q → AW κ pX3_ask (dd + 1) (none, q) 88 [some (aR 3 0 49), none, none, none] [] σ := by
  intro  σ q h
  unfold f_X3_ask_88 at h
  refine aw_seq [(.aload_n 0, 1, ax0), (.iconst 1, 1, (axI 1))] (pc' := 90) (L' := [some (aR 3 0 49), none, none, none]) (stk' := [aI 1, aR 3 0 49]) (σ' := σ) (g := []) (by decide +kernel) rfl rfl ?_
  obtain ⟨σ9, h8, h⟩ := bndV_some h
  refine aw_cV (P' := pX3_fail) (idx := 90) (d' := 2) (c := 3) (n := 0) (k := 49) [aI 1] [] (ov := none) (stk2 := []) okp_X3_fail (by decide +kernel) ml_RX3_90 vok_X3_fail (by decide) rfl nar_X3_fail (room2_le (d0 := 4 + 1) (by decide) (by omega)) rfl (Nat.le_of_ble_eq_true rfl) (ok_X3_fail h8) rfl ?_
  cases h
  exact aw_vret rfl (by decide +kernel)
def b_X3_ask (rc : Nat → Int32 → Int32 → Sg → Option Sg) (v1 : Int32) (σ : Sg) : Option Sg :=
  bnd (f_X7_kind (σ.1 49 4) σ) fun r12 σ11 =>
  if r12 = 48 then (
    bndV (rc 8 v1 0 σ11) fun σ26 =>
    some σ26
  ) else (
    if r12 = 49 then (
      f_X3_ask_36 rc v1 r12 σ11
    ) else (
      if r12 = 50 then (
        f_X3_ask_36 rc v1 r12 σ11
      ) else (
        bndV (rc 0 v1 0 σ11) fun σ14 =>
        bnd (f_X7_kind (σ14.1 49 4) σ14) fun r17 σ16 =>
        if r17 < 30 then (
          f_X3_ask_88 rc σ16
        ) else (
          if r17 ≤ 35 then (
            ltσ (wI σ16 49 4 ((σ16.1 49 4) + 1)) fun σ18 =>
            bndV (rc 0 v1 0 σ18) fun σ21 =>
            bnd (f_X3_emit r17 0 σ21) fun r24 σ23 =>
            some σ23
          ) else (
            f_X3_ask_88 rc σ16
          )
        )
      )
    )
  )
set_option maxRecDepth 100000 in
set_option maxHeartbeats 4000000 in
theorem okb_X3_ask {κ : Kd} {dd : Nat} (hdd : 4 ≤ dd) {rc : Nat → Int32 → Int32 → Sg → Option Sg} (hrc : ∀ i a b σ q, rc i a b σ = some q → AMet κ (scP3 i) dd (scA3 i a b) σ (none, q)) {v1 : Int32} {σ : Sg} {q : Sg} (h : b_X3_ask rc v1 σ = some q) : AMet κ pX3_ask (dd + 1) [aR 3 0 49, aI v1] σ (none, q) := by
  unfold b_X3_ask at h
  refine amet_of okp_X3_ask [(false, aR 3 0 49), (false, aI v1)] (List.forall_mem_cons.mpr ⟨rfl, List.forall_mem_cons.mpr ⟨rfl, (fun _ hn => absurd hn List.not_mem_nil)⟩⟩) 2 rfl ?_
  show AW κ pX3_ask (dd + 1) (none, q) 0 [some (aR 3 0 49), some (aI v1), none, none] [] σ
  refine aw_seq [(.aload_n 0, 1, ax0), (.getfield 12, 3, (axF 3 3 (2, 1, 7, some 0))), (.aload_n 0, 1, ax0), (.getfield 43, 3, (axF 3 4 (0, 0, 0, none)))] (pc' := 8) (L' := [some (aR 3 0 49), some (aI v1), none, none]) (stk' := [aI (σ.1 49 4), aR 7 0 50]) (σ' := σ) (g := []) (by decide +kernel) rfl rfl ?_
  obtain ⟨r12, σ11, h10, h⟩ := bnd_some h
  refine aw_cV (P' := pX7_kind) (idx := 47) (d' := 1) (c := 7) (n := 0) (k := 50) [aI (σ.1 49 4)] [] (ov := (some (aI r12))) (stk2 := [aI r12]) okp_X7_kind (by decide +kernel) ml_RX3_47 vok_X7_kind (by decide) rfl nar_X7_kind (room2_le (d0 := 4 + 1) (by decide) (by omega)) rfl (Nat.le_of_ble_eq_true rfl) (ok_X7_kind h10) rfl ?_
  refine aw_seq [(.istore_n 2, 1, ax0), (.iload_n 2, 1, ax0), (.bipush 48, 2, (axI 48))] (pc' := 15) (L' := [some (aR 3 0 49), some (aI v1), some (aI r12), none]) (stk' := [aI 48, aI r12]) (σ' := σ11) (g := []) (by decide +kernel) rfl rfl ?_
  refine aw_icmp_ne (off := 9) (tgt := 24) (by decide +kernel) (by decide) (fun c1 => ?_) (fun c1 => ?_)
  · rw [if_neg c1] at h
    refine aw_seq [(.iload_n 2, 1, ax0), (.bipush 49, 2, (axI 49))] (pc' := 27) (L' := [some (aR 3 0 49), some (aI v1), some (aI r12), none]) (stk' := [aI 49, aI r12]) (σ' := σ11) (g := []) (by decide +kernel) rfl rfl ?_
    refine aw_icmp_eq (off := 9) (tgt := 36) (by decide +kernel) (by decide) (fun c1 => ?_) (fun c1 => ?_)
    · rw [if_pos c1] at h
      refine aw_forget (L' := [some (aR 3 0 49), some (aI v1), some (aI r12), none]) (lsub_s (lsub_s (lsub_s (lsub_n (lsub_0))))) ?_
      exact ok_X3_ask_36 hdd hrc v1 r12 σ11 _ h
    · rw [if_neg c1] at h
      refine aw_seq [(.iload_n 2, 1, ax0), (.bipush 50, 2, (axI 50))] (pc' := 33) (L' := [some (aR 3 0 49), some (aI v1), some (aI r12), none]) (stk' := [aI 50, aI r12]) (σ' := σ11) (g := []) (by decide +kernel) rfl rfl ?_
      refine aw_icmp_ne (off := 26) (tgt := 59) (by decide +kernel) (by decide) (fun c1 => ?_) (fun c1 => ?_)
      · rw [if_neg c1] at h
        refine aw_seq [(.aload_n 0, 1, ax0), (.iload_n 1, 1, ax0)] (pc' := 61) (L' := [some (aR 3 0 49), some (aI v1), some (aI r12), none]) (stk' := [aI v1, aR 3 0 49]) (σ' := σ11) (g := []) (by decide +kernel) rfl rfl ?_
        obtain ⟨σ14, h13, h⟩ := bndV_some h
        refine aw_cV (P' := pX3_sum) (idx := 104) (d' := dd) (c := 3) (n := 0) (k := 49) [aI v1] [] (ov := none) (stk2 := []) okp_X3_sum (by decide +kernel) ml_RX3_104 vok_X3_sum (by decide) rfl nar_X3_sum (room2_succ rfl) rfl (Nat.le_of_ble_eq_true rfl) (hrc _ _ _ _ _ h13) rfl ?_
        refine aw_seq [(.aload_n 0, 1, ax0), (.getfield 12, 3, (axF 3 3 (2, 1, 7, some 0))), (.aload_n 0, 1, ax0), (.getfield 43, 3, (axF 3 4 (0, 0, 0, none)))] (pc' := 72) (L' := [some (aR 3 0 49), some (aI v1), some (aI r12), none]) (stk' := [aI (σ14.1 49 4), aR 7 0 50]) (σ' := σ14) (g := []) (by decide +kernel) rfl rfl ?_
        obtain ⟨r17, σ16, h15, h⟩ := bnd_some h
        refine aw_cV (P' := pX7_kind) (idx := 47) (d' := 1) (c := 7) (n := 0) (k := 50) [aI (σ14.1 49 4)] [] (ov := (some (aI r17))) (stk2 := [aI r17]) okp_X7_kind (by decide +kernel) ml_RX3_47 vok_X7_kind (by decide) rfl nar_X7_kind (room2_le (d0 := 4 + 1) (by decide) (by omega)) rfl (Nat.le_of_ble_eq_true rfl) (ok_X7_kind h15) rfl ?_
        refine aw_seq [(.istore_n 3, 1, ax0), (.iload_n 3, 1, ax0), (.bipush 30, 2, (axI 30))] (pc' := 79) (L' := [some (aR 3 0 49), some (aI v1), some (aI r12), some (aI r17)]) (stk' := [aI 30, aI r17]) (σ' := σ16) (g := []) (by decide +kernel) rfl rfl ?_
        refine aw_icmp_lt (off := 9) (tgt := 88) (by decide +kernel) (by decide) (fun c1 => ?_) (fun c1 => ?_)
        · rw [if_pos c1] at h
          refine aw_forget (L' := [some (aR 3 0 49), none, none, none]) (lsub_s (lsub_n (lsub_n (lsub_n (lsub_0))))) ?_
          exact ok_X3_ask_88 hdd hrc σ16 _ h
        · rw [if_neg c1] at h
          refine aw_seq [(.iload_n 3, 1, ax0), (.bipush 35, 2, (axI 35))] (pc' := 85) (L' := [some (aR 3 0 49), some (aI v1), some (aI r12), some (aI r17)]) (stk' := [aI 35, aI r17]) (σ' := σ16) (g := []) (by decide +kernel) rfl rfl ?_
          refine aw_icmp_le (off := 9) (tgt := 94) (by decide +kernel) (by decide) (fun c1 => ?_) (fun c1 => ?_)
          · rw [if_pos c1] at h
            obtain ⟨σ18, e19, h⟩ := ltσ_some h
            refine aw_seq [(.aload_n 0, 1, ax0), (.dup, 1, ax0), (.getfield 43, 3, (axF 3 4 (0, 0, 0, none))), (.iconst 1, 1, (axI 1)), (.iadd, 1, ax0), (.putfield 43, 3, (axF 3 4 (0, 0, 0, none)))] (pc' := 104) (L' := [some (aR 3 0 49), some (aI v1), some (aI r12), some (aI r17)]) (stk' := []) (σ' := σ18) (g := []) (by decide +kernel) (by rw [e19]; rfl) rfl ?_
            refine aw_seq [(.aload_n 0, 1, ax0), (.iload_n 1, 1, ax0)] (pc' := 106) (L' := [some (aR 3 0 49), some (aI v1), some (aI r12), some (aI r17)]) (stk' := [aI v1, aR 3 0 49]) (σ' := σ18) (g := []) (by decide +kernel) rfl rfl ?_
            obtain ⟨σ21, h20, h⟩ := bndV_some h
            refine aw_cV (P' := pX3_sum) (idx := 104) (d' := dd) (c := 3) (n := 0) (k := 49) [aI v1] [] (ov := none) (stk2 := []) okp_X3_sum (by decide +kernel) ml_RX3_104 vok_X3_sum (by decide) rfl nar_X3_sum (room2_succ rfl) rfl (Nat.le_of_ble_eq_true rfl) (hrc _ _ _ _ _ h20) rfl ?_
            refine aw_seq [(.aload_n 0, 1, ax0), (.iload_n 3, 1, ax0), (.iconst 0, 1, (axI 0))] (pc' := 112) (L' := [some (aR 3 0 49), some (aI v1), some (aI r12), some (aI r17)]) (stk' := [aI 0, aI r17, aR 3 0 49]) (σ' := σ21) (g := []) (by decide +kernel) rfl rfl ?_
            obtain ⟨r24, σ23, h22, h⟩ := bnd_some h
            refine aw_cV (P' := pX3_emit) (idx := 124) (d' := 1) (c := 3) (n := 0) (k := 49) [aI r17, aI 0] [] (ov := (some (aI r24))) (stk2 := [aI r24]) okp_X3_emit (by decide +kernel) ml_RX3_124 vok_X3_emit (by decide) rfl nar_X3_emit (room2_le (d0 := 4 + 1) (by decide) (by omega)) rfl (Nat.le_of_ble_eq_true rfl) (ok_X3_emit h22) rfl ?_
            refine aw_seq [(.pop, 1, ax0)] (pc' := 116) (L' := [some (aR 3 0 49), some (aI v1), some (aI r12), some (aI r17)]) (stk' := []) (σ' := σ23) (g := []) (by decide +kernel) rfl rfl ?_
            cases h
            exact aw_vret rfl (by decide +kernel)
          · rw [if_neg c1] at h
            refine aw_forget (L' := [some (aR 3 0 49), none, none, none]) (lsub_s (lsub_n (lsub_n (lsub_n (lsub_0))))) ?_
            exact ok_X3_ask_88 hdd hrc σ16 _ h
      · rw [if_pos c1] at h
        refine aw_forget (L' := [some (aR 3 0 49), some (aI v1), some (aI r12), none]) (lsub_s (lsub_s (lsub_s (lsub_n (lsub_0))))) ?_
        exact ok_X3_ask_36 hdd hrc v1 r12 σ11 _ h
  · rw [if_pos c1] at h
    refine aw_seq [(.aload_n 0, 1, ax0), (.iload_n 1, 1, ax0)] (pc' := 20) (L' := [some (aR 3 0 49), some (aI v1), some (aI r12), none]) (stk' := [aI v1, aR 3 0 49]) (σ' := σ11) (g := []) (by decide +kernel) rfl rfl ?_
    obtain ⟨σ26, h25, h⟩ := bndV_some h
    refine aw_cV (P' := pX3_deny) (idx := 152) (d' := dd) (c := 3) (n := 0) (k := 49) [aI v1] [] (ov := none) (stk2 := []) okp_X3_deny (by decide +kernel) ml_RX3_152 vok_X3_deny (by decide) rfl nar_X3_deny (room2_succ rfl) rfl (Nat.le_of_ble_eq_true rfl) (hrc _ _ _ _ _ h25) rfl ?_
    cases h
    exact aw_vret rfl (by decide +kernel)
def b_X3_deny (rc : Nat → Int32 → Int32 → Sg → Option Sg) (v1 : Int32) (σ : Sg) : Option Sg :=
  if v1 < 8 then (
    ltσ (wI σ 49 4 ((σ.1 49 4) + 1)) fun σ1 =>
    bndV (rc 7 (v1 + 1) 0 σ1) fun σ4 =>
    bnd (f_X3_emit 48 0 σ4) fun r7 σ6 =>
    some σ6
  ) else (
    bndV (f_X3_fail 3 σ) fun σ9 =>
    some σ9
  )
set_option maxRecDepth 100000 in
set_option maxHeartbeats 4000000 in
theorem okb_X3_deny {κ : Kd} {dd : Nat} (hdd : 4 ≤ dd) {rc : Nat → Int32 → Int32 → Sg → Option Sg} (hrc : ∀ i a b σ q, rc i a b σ = some q → AMet κ (scP3 i) dd (scA3 i a b) σ (none, q)) {v1 : Int32} {σ : Sg} {q : Sg} (h : b_X3_deny rc v1 σ = some q) : AMet κ pX3_deny (dd + 1) [aR 3 0 49, aI v1] σ (none, q) := by
  unfold b_X3_deny at h
  refine amet_of okp_X3_deny [(false, aR 3 0 49), (false, aI v1)] (List.forall_mem_cons.mpr ⟨rfl, List.forall_mem_cons.mpr ⟨rfl, (fun _ hn => absurd hn List.not_mem_nil)⟩⟩) 0 rfl ?_
  show AW κ pX3_deny (dd + 1) (none, q) 0 [some (aR 3 0 49), some (aI v1)] [] σ
  refine aw_seq [(.iload_n 1, 1, ax0), (.bipush 8, 2, (axI 8))] (pc' := 3) (L' := [some (aR 3 0 49), some (aI v1)]) (stk' := [aI 8, aI v1]) (σ' := σ) (g := []) (by decide +kernel) rfl rfl ?_
  refine aw_icmp_lt (off := 9) (tgt := 12) (by decide +kernel) (by decide) (fun c1 => ?_) (fun c1 => ?_)
  · rw [if_pos c1] at h
    obtain ⟨σ1, e2, h⟩ := ltσ_some h
    refine aw_seq [(.aload_n 0, 1, ax0), (.dup, 1, ax0), (.getfield 43, 3, (axF 3 4 (0, 0, 0, none))), (.iconst 1, 1, (axI 1)), (.iadd, 1, ax0), (.putfield 43, 3, (axF 3 4 (0, 0, 0, none)))] (pc' := 22) (L' := [some (aR 3 0 49), some (aI v1)]) (stk' := []) (σ' := σ1) (g := []) (by decide +kernel) (by rw [e2]; rfl) rfl ?_
    refine aw_seq [(.aload_n 0, 1, ax0), (.iload_n 1, 1, ax0), (.iconst 1, 1, (axI 1)), (.iadd, 1, ax0)] (pc' := 26) (L' := [some (aR 3 0 49), some (aI v1)]) (stk' := [aI (v1 + 1), aR 3 0 49]) (σ' := σ1) (g := []) (by decide +kernel) rfl rfl ?_
    obtain ⟨σ4, h3, h⟩ := bndV_some h
    refine aw_cV (P' := pX3_ask) (idx := 149) (d' := dd) (c := 3) (n := 0) (k := 49) [aI (v1 + 1)] [] (ov := none) (stk2 := []) okp_X3_ask (by decide +kernel) ml_RX3_149 vok_X3_ask (by decide) rfl nar_X3_ask (room2_succ rfl) rfl (Nat.le_of_ble_eq_true rfl) (hrc _ _ _ _ _ h3) rfl ?_
    refine aw_seq [(.aload_n 0, 1, ax0), (.bipush 48, 2, (axI 48)), (.iconst 0, 1, (axI 0))] (pc' := 33) (L' := [some (aR 3 0 49), some (aI v1)]) (stk' := [aI 0, aI 48, aR 3 0 49]) (σ' := σ4) (g := []) (by decide +kernel) rfl rfl ?_
    obtain ⟨r7, σ6, h5, h⟩ := bnd_some h
    refine aw_cV (P' := pX3_emit) (idx := 124) (d' := 1) (c := 3) (n := 0) (k := 49) [aI 48, aI 0] [] (ov := (some (aI r7))) (stk2 := [aI r7]) okp_X3_emit (by decide +kernel) ml_RX3_124 vok_X3_emit (by decide) rfl nar_X3_emit (room2_le (d0 := 4 + 1) (by decide) (by omega)) rfl (Nat.le_of_ble_eq_true rfl) (ok_X3_emit h5) rfl ?_
    refine aw_seq [(.pop, 1, ax0)] (pc' := 37) (L' := [some (aR 3 0 49), some (aI v1)]) (stk' := []) (σ' := σ6) (g := []) (by decide +kernel) rfl rfl ?_
    cases h
    exact aw_vret rfl (by decide +kernel)
  · rw [if_neg c1] at h
    refine aw_seq [(.aload_n 0, 1, ax0), (.iconst 3, 1, (axI 3))] (pc' := 8) (L' := [some (aR 3 0 49), some (aI v1)]) (stk' := [aI 3, aR 3 0 49]) (σ' := σ) (g := []) (by decide +kernel) rfl rfl ?_
    obtain ⟨σ9, h8, h⟩ := bndV_some h
    refine aw_cV (P' := pX3_fail) (idx := 90) (d' := 2) (c := 3) (n := 0) (k := 49) [aI 3] [] (ov := none) (stk2 := []) okp_X3_fail (by decide +kernel) ml_RX3_90 vok_X3_fail (by decide) rfl nar_X3_fail (room2_le (d0 := 4 + 1) (by decide) (by omega)) rfl (Nat.le_of_ble_eq_true rfl) (ok_X3_fail h8) rfl ?_
    cases h
    exact aw_vret rfl (by decide +kernel)
def f_SCC3 : Nat → Nat → Int32 → Int32 → Sg → Option Sg
  | 0, _, _, _, _ => none
  | n + 1, 0, a, _, σ => b_X3_sum (f_SCC3 n) a σ
  | n + 1, 1, a, _, σ => b_X3_product (f_SCC3 n) a σ
  | n + 1, 2, a, _, σ => b_X3_one (f_SCC3 n) a σ
  | n + 1, 3, a, b, σ => b_X3_around (f_SCC3 n) a b σ
  | n + 1, 4, a, _, σ => b_X3_choice (f_SCC3 n) a σ
  | n + 1, 5, a, _, σ => b_X3_either (f_SCC3 n) a σ
  | n + 1, 6, a, _, σ => b_X3_both (f_SCC3 n) a σ
  | n + 1, 7, a, _, σ => b_X3_ask (f_SCC3 n) a σ
  | n + 1, _, a, _, σ => b_X3_deny (f_SCC3 n) a σ
set_option maxRecDepth 100000 in
set_option maxHeartbeats 4000000 in
theorem ok_SCC3 {κ : Kd} : ∀ (n dd : Nat), dd = 4 + n → ∀ (i : Nat) (a b : Int32) (σ q : Sg), f_SCC3 n i a b σ = some q → AMet κ (scP3 i) dd (scA3 i a b) σ (none, q) := by
  intro n
  induction n with
  | zero =>
    intro dd hd i a b σ q h
    unfold f_SCC3 at h
    cases h
  | succ n ih =>
    intro dd hd i a b σ q h
    obtain ⟨d1, rfl⟩ : ∃ d1, dd = d1 + 1 := ⟨4 + n, by omega⟩
    have hdd : 4 ≤ d1 := by omega
    have hrc := ih d1 (by omega)
    match i, h with
    | 0, h => exact okb_X3_sum hdd hrc (by unfold f_SCC3 at h; exact h)
    | 1, h => exact okb_X3_product hdd hrc (by unfold f_SCC3 at h; exact h)
    | 2, h => exact okb_X3_one hdd hrc (by unfold f_SCC3 at h; exact h)
    | 3, h => exact okb_X3_around hdd hrc (by unfold f_SCC3 at h; exact h)
    | 4, h => exact okb_X3_choice hdd hrc (by unfold f_SCC3 at h; exact h)
    | 5, h => exact okb_X3_either hdd hrc (by unfold f_SCC3 at h; exact h)
    | 6, h => exact okb_X3_both hdd hrc (by unfold f_SCC3 at h; exact h)
    | 7, h => exact okb_X3_ask hdd hrc (by unfold f_SCC3 at h; exact h)
    | i + 8, h => exact okb_X3_deny hdd hrc (by unfold f_SCC3 at h; exact h)
def f_X3_sum (a : Int32) (σ : Sg) : Option Sg := f_SCC3 200 0 a 0 σ
set_option maxRecDepth 100000 in
set_option maxHeartbeats 4000000 in
theorem ok_X3_sum {κ : Kd} {a : Int32} {σ q : Sg} (h : f_X3_sum a σ = some q) : AMet κ pX3_sum 204 [aR 3 0 49, aI a] σ (none, q) := ok_SCC3 200 204 rfl 0 a 0 σ q h
def f_X3_product (a : Int32) (σ : Sg) : Option Sg := f_SCC3 200 1 a 0 σ
set_option maxRecDepth 100000 in
set_option maxHeartbeats 4000000 in
theorem ok_X3_product {κ : Kd} {a : Int32} {σ q : Sg} (h : f_X3_product a σ = some q) : AMet κ pX3_product 204 [aR 3 0 49, aI a] σ (none, q) := ok_SCC3 200 204 rfl 1 a 0 σ q h
def f_X3_one (a : Int32) (σ : Sg) : Option Sg := f_SCC3 200 2 a 0 σ
set_option maxRecDepth 100000 in
set_option maxHeartbeats 4000000 in
theorem ok_X3_one {κ : Kd} {a : Int32} {σ q : Sg} (h : f_X3_one a σ = some q) : AMet κ pX3_one 204 [aR 3 0 49, aI a] σ (none, q) := ok_SCC3 200 204 rfl 2 a 0 σ q h
def f_X3_around (a b : Int32) (σ : Sg) : Option Sg := f_SCC3 200 3 a b σ
set_option maxRecDepth 100000 in
set_option maxHeartbeats 4000000 in
theorem ok_X3_around {κ : Kd} {a b : Int32} {σ q : Sg} (h : f_X3_around a b σ = some q) : AMet κ pX3_around 204 [aR 3 0 49, aI a, aI b] σ (none, q) := ok_SCC3 200 204 rfl 3 a b σ q h
def f_X3_choice (a : Int32) (σ : Sg) : Option Sg := f_SCC3 200 4 a 0 σ
set_option maxRecDepth 100000 in
set_option maxHeartbeats 4000000 in
theorem ok_X3_choice {κ : Kd} {a : Int32} {σ q : Sg} (h : f_X3_choice a σ = some q) : AMet κ pX3_choice 204 [aR 3 0 49, aI a] σ (none, q) := ok_SCC3 200 204 rfl 4 a 0 σ q h
def f_X3_either (a : Int32) (σ : Sg) : Option Sg := f_SCC3 200 5 a 0 σ
set_option maxRecDepth 100000 in
set_option maxHeartbeats 4000000 in
theorem ok_X3_either {κ : Kd} {a : Int32} {σ q : Sg} (h : f_X3_either a σ = some q) : AMet κ pX3_either 204 [aR 3 0 49, aI a] σ (none, q) := ok_SCC3 200 204 rfl 5 a 0 σ q h
def f_X3_both (a : Int32) (σ : Sg) : Option Sg := f_SCC3 200 6 a 0 σ
set_option maxRecDepth 100000 in
set_option maxHeartbeats 4000000 in
theorem ok_X3_both {κ : Kd} {a : Int32} {σ q : Sg} (h : f_X3_both a σ = some q) : AMet κ pX3_both 204 [aR 3 0 49, aI a] σ (none, q) := ok_SCC3 200 204 rfl 6 a 0 σ q h
def f_X3_ask (a : Int32) (σ : Sg) : Option Sg := f_SCC3 200 7 a 0 σ
set_option maxRecDepth 100000 in
set_option maxHeartbeats 4000000 in
theorem ok_X3_ask {κ : Kd} {a : Int32} {σ q : Sg} (h : f_X3_ask a σ = some q) : AMet κ pX3_ask 204 [aR 3 0 49, aI a] σ (none, q) := ok_SCC3 200 204 rfl 7 a 0 σ q h
def f_X3_deny (a : Int32) (σ : Sg) : Option Sg := f_SCC3 200 8 a 0 σ
set_option maxRecDepth 100000 in
set_option maxHeartbeats 4000000 in
theorem ok_X3_deny {κ : Kd} {a : Int32} {σ q : Sg} (h : f_X3_deny a σ = some q) : AMet κ pX3_deny 204 [aR 3 0 49, aI a] σ (none, q) := ok_SCC3 200 204 rfl 8 a 0 σ q h
def f_X3_clause_134    (σ : Sg) : Option Sg :=
  some σ
set_option maxRecDepth 100000 in
set_option maxHeartbeats 4000000 in
theorem ok_X3_clause_134 {κ : Kd}    : ∀  (σ : Sg) (q : Sg), f_X3_clause_134  σ = some q → AW κ pX3_clause 205 (none, q) 134 [none, none] [] σ := by
  intro  σ q h
  unfold f_X3_clause_134 at h
  cases h
  exact aw_vret rfl (by decide +kernel)
def f_X3_clause_128    (σ : Sg) : Option Sg :=
  bndV (f_X3_take 42 σ) fun σ2 =>
  f_X3_clause_134 σ2
set_option maxRecDepth 100000 in
set_option maxHeartbeats 4000000 in
theorem ok_X3_clause_128 {κ : Kd}    : ∀  (σ : Sg) (q : Sg), f_X3_clause_128  σ = some q → AW κ pX3_clause 205 (none, q) 128 [some (aR 3 0 49), none] [] σ := by
  intro  σ q h
  unfold f_X3_clause_128 at h
  refine aw_seq [(.aload_n 0, 1, ax0), (.bipush 42, 2, (axI 42))] (pc' := 131) (L' := [some (aR 3 0 49), none]) (stk' := [aI 42, aR 3 0 49]) (σ' := σ) (g := []) (by decide +kernel) rfl rfl ?_
  obtain ⟨σ2, h1, h⟩ := bndV_some h
  refine aw_cV (P' := pX3_take) (idx := 114) (d' := 3) (c := 3) (n := 0) (k := 49) [aI 42] [] (ov := none) (stk2 := []) okp_X3_take (by decide +kernel) ml_RX3_114 vok_X3_take (by decide) rfl nar_X3_take (by decide) rfl (Nat.le_of_ble_eq_true rfl) (ok_X3_take h1) rfl ?_
  refine aw_forget (L' := [none, none]) (lsub_n (lsub_n (lsub_0))) ?_
  exact ok_X3_clause_134 σ2 _ h
def f_X3_clause_49   (v1 : Int32) (σ : Sg) : Option Sg :=
  if (σ.1 49 6) < 24 then (
    ltσ (wI σ 49 4 ((σ.1 49 4) + 1)) fun σ3 =>
    if 3 ≤ v1 then (
      bndV (f_X3_readAct v1 σ3) fun σ6 =>
      f_X3_clause_128 σ6
    ) else (
      ltσ (wI σ3 49 12 v1) fun σ7 =>
      grd (inb v1 3 && true) <|
      ltσ (wI σ7 57 (ix v1) (σ7.1 49 9)) fun σ9 =>
      bndV (f_X3_sum 0 σ9) fun σ12 =>
      grd (inb v1 3 && true) <|
      ltσ (wI σ12 58 (ix v1) (σ12.1 49 9)) fun σ13 =>
      bndV (f_X3_addClause v1 (-1) (-1) (-1) σ13) fun σ16 =>
      f_X3_clause_128 σ16
    )
  ) else (
    bndV (f_X3_fail 6 σ) fun σ18 =>
    f_X3_clause_134 σ18
  )
set_option maxRecDepth 100000 in
set_option maxHeartbeats 4000000 in
theorem ok_X3_clause_49 {κ : Kd}    : ∀ (v1 : Int32) (σ : Sg) (q : Sg), f_X3_clause_49 v1 σ = some q → AW κ pX3_clause 205 (none, q) 49 [some (aR 3 0 49), some (aI v1)] [] σ := by
  intro v1 σ q h
  unfold f_X3_clause_49 at h
  refine aw_seq [(.aload_n 0, 1, ax0), (.getfield 57, 3, (axF 3 6 (0, 0, 0, none))), (.bipush 24, 2, (axI 24))] (pc' := 55) (L' := [some (aR 3 0 49), some (aI v1)]) (stk' := [aI 24, aI (σ.1 49 6)]) (σ' := σ) (g := []) (by decide +kernel) rfl rfl ?_
  refine aw_icmp_lt (off := 12) (tgt := 67) (by decide +kernel) (by decide) (fun c1 => ?_) (fun c1 => ?_)
  · rw [if_pos c1] at h
    obtain ⟨σ3, e4, h⟩ := ltσ_some h
    refine aw_seq [(.aload_n 0, 1, ax0), (.dup, 1, ax0), (.getfield 43, 3, (axF 3 4 (0, 0, 0, none))), (.iconst 1, 1, (axI 1)), (.iadd, 1, ax0), (.putfield 43, 3, (axF 3 4 (0, 0, 0, none)))] (pc' := 77) (L' := [some (aR 3 0 49), some (aI v1)]) (stk' := []) (σ' := σ3) (g := []) (by decide +kernel) (by rw [e4]; rfl) rfl ?_
    refine aw_seq [(.iload_n 1, 1, ax0), (.iconst 3, 1, (axI 3))] (pc' := 79) (L' := [some (aR 3 0 49), some (aI v1)]) (stk' := [aI 3, aI v1]) (σ' := σ3) (g := []) (by decide +kernel) rfl rfl ?_
    refine aw_icmp_ge (off := 44) (tgt := 123) (by decide +kernel) (by decide) (fun c1 => ?_) (fun c1 => ?_)
    · rw [if_pos c1] at h
      refine aw_seq [(.aload_n 0, 1, ax0), (.iload_n 1, 1, ax0)] (pc' := 125) (L' := [some (aR 3 0 49), some (aI v1)]) (stk' := [aI v1, aR 3 0 49]) (σ' := σ3) (g := []) (by decide +kernel) rfl rfl ?_
      obtain ⟨σ6, h5, h⟩ := bndV_some h
      refine aw_cV (P' := pX3_readAct) (idx := 111) (d' := 4) (c := 3) (n := 0) (k := 49) [aI v1] [] (ov := none) (stk2 := []) okp_X3_readAct (by decide +kernel) ml_RX3_111 vok_X3_readAct (by decide) rfl nar_X3_readAct (by decide) rfl (Nat.le_of_ble_eq_true rfl) (ok_X3_readAct h5) rfl ?_
      refine aw_forget (L' := [some (aR 3 0 49), none]) (lsub_s (lsub_n (lsub_0))) ?_
      exact ok_X3_clause_128 σ6 _ h
    · rw [if_neg c1] at h
      obtain ⟨σ7, e8, h⟩ := ltσ_some h
      refine aw_seq [(.aload_n 0, 1, ax0), (.iload_n 1, 1, ax0), (.putfield 101, 3, (axF 3 12 (0, 0, 0, none)))] (pc' := 87) (L' := [some (aR 3 0 49), some (aI v1)]) (stk' := []) (σ' := σ7) (g := []) (by decide +kernel) (by rw [e8]; rfl) rfl ?_
      obtain ⟨hg, h⟩ := grd_some h
      obtain ⟨σ9, e10, h⟩ := ltσ_some h
      refine aw_seq [(.aload_n 0, 1, ax0), (.getfield 30, 3, (axF 3 10 (2, 8, 13, some 3))), (.iload_n 1, 1, ax0), (.aload_n 0, 1, ax0), (.getfield 66, 3, (axF 3 9 (0, 0, 0, none))), (.iastore, 1, ax0)] (pc' := 97) (L' := [some (aR 3 0 49), some (aI v1)]) (stk' := []) (σ' := σ9) (g := [inb v1 3]) (by decide +kernel) (by rw [e10]; rfl) hg ?_
      refine aw_seq [(.aload_n 0, 1, ax0), (.iconst 0, 1, (axI 0))] (pc' := 99) (L' := [some (aR 3 0 49), some (aI v1)]) (stk' := [aI 0, aR 3 0 49]) (σ' := σ9) (g := []) (by decide +kernel) rfl rfl ?_
      obtain ⟨σ12, h11, h⟩ := bndV_some h
      refine aw_cV (P' := pX3_sum) (idx := 104) (d' := 204) (c := 3) (n := 0) (k := 49) [aI 0] [] (ov := none) (stk2 := []) okp_X3_sum (by decide +kernel) ml_RX3_104 vok_X3_sum (by decide) rfl nar_X3_sum (by decide) rfl (Nat.le_of_ble_eq_true rfl) (ok_X3_sum h11) rfl ?_
      obtain ⟨hg, h⟩ := grd_some h
      obtain ⟨σ13, e14, h⟩ := ltσ_some h
      refine aw_seq [(.aload_n 0, 1, ax0), (.getfield 33, 3, (axF 3 11 (2, 9, 13, some 3))), (.iload_n 1, 1, ax0), (.aload_n 0, 1, ax0), (.getfield 66, 3, (axF 3 9 (0, 0, 0, none))), (.iastore, 1, ax0)] (pc' := 112) (L' := [some (aR 3 0 49), some (aI v1)]) (stk' := []) (σ' := σ13) (g := [inb v1 3]) (by decide +kernel) (by rw [e14]; rfl) hg ?_
      refine aw_seq [(.aload_n 0, 1, ax0), (.iload_n 1, 1, ax0), (.iconst (-1), 1, (axI (-1))), (.iconst (-1), 1, (axI (-1))), (.iconst (-1), 1, (axI (-1)))] (pc' := 117) (L' := [some (aR 3 0 49), some (aI v1)]) (stk' := [aI (-1), aI (-1), aI (-1), aI v1, aR 3 0 49]) (σ' := σ13) (g := []) (by decide +kernel) rfl rfl ?_
      obtain ⟨σ16, h15, h⟩ := bndV_some h
      refine aw_cV (P' := pX3_addClause) (idx := 107) (d' := 1) (c := 3) (n := 0) (k := 49) [aI v1, aI (-1), aI (-1), aI (-1)] [] (ov := none) (stk2 := []) okp_X3_addClause (by decide +kernel) ml_RX3_107 vok_X3_addClause (by decide) rfl nar_X3_addClause (by decide) rfl (Nat.le_of_ble_eq_true rfl) (ok_X3_addClause h15) rfl ?_
      refine aw_goto (off := 8) (tgt := 128) (by decide +kernel) (by decide) ?_
      refine aw_forget (L' := [some (aR 3 0 49), none]) (lsub_s (lsub_n (lsub_0))) ?_
      exact ok_X3_clause_128 σ16 _ h
  · rw [if_neg c1] at h
    refine aw_seq [(.aload_n 0, 1, ax0), (.bipush 6, 2, (axI 6))] (pc' := 61) (L' := [some (aR 3 0 49), some (aI v1)]) (stk' := [aI 6, aR 3 0 49]) (σ' := σ) (g := []) (by decide +kernel) rfl rfl ?_
    obtain ⟨σ18, h17, h⟩ := bndV_some h
    refine aw_cV (P' := pX3_fail) (idx := 90) (d' := 2) (c := 3) (n := 0) (k := 49) [aI 6] [] (ov := none) (stk2 := []) okp_X3_fail (by decide +kernel) ml_RX3_90 vok_X3_fail (by decide) rfl nar_X3_fail (by decide) rfl (Nat.le_of_ble_eq_true rfl) (ok_X3_fail h17) rfl ?_
    refine aw_goto (off := 70) (tgt := 134) (by decide +kernel) (by decide) ?_
    refine aw_forget (L' := [none, none]) (lsub_n (lsub_n (lsub_0))) ?_
    exact ok_X3_clause_134 σ18 _ h
def f_X3_clause  (σ : Sg) : Option Sg :=
  bnd (f_X7_kind (σ.1 49 4) σ) fun r21 σ20 =>
  if r21 ≤ 11 then (
    if 3 ≤ r21 then (
      f_X3_clause_49 r21 σ20
    ) else (
      grd (inb r21 3 && true) <|
      if (σ20.1 57 (ix r21)) = (-1) then (
        f_X3_clause_49 r21 σ20
      ) else (
        bndV (f_X3_fail 4 σ20) fun σ23 =>
        f_X3_clause_134 σ23
      )
    )
  ) else (
    bndV (f_X3_fail 1 σ20) fun σ25 =>
    f_X3_clause_134 σ25
  )
set_option maxRecDepth 100000 in
set_option maxHeartbeats 4000000 in
theorem ok_X3_clause {κ : Kd}  {σ : Sg} {q : Sg} (h : f_X3_clause σ = some q) : AMet κ pX3_clause 205 [aR 3 0 49] σ (none, q) := by
  unfold f_X3_clause at h
  refine amet_of okp_X3_clause [(false, aR 3 0 49)] (List.forall_mem_cons.mpr ⟨rfl, (fun _ hn => absurd hn List.not_mem_nil)⟩) 1 rfl ?_
  show AW κ pX3_clause 205 (none, q) 0 [some (aR 3 0 49), none] [] σ
  refine aw_seq [(.aload_n 0, 1, ax0), (.getfield 12, 3, (axF 3 3 (2, 1, 7, some 0))), (.aload_n 0, 1, ax0), (.getfield 43, 3, (axF 3 4 (0, 0, 0, none)))] (pc' := 8) (L' := [some (aR 3 0 49), none]) (stk' := [aI (σ.1 49 4), aR 7 0 50]) (σ' := σ) (g := []) (by decide +kernel) rfl rfl ?_
  obtain ⟨r21, σ20, h19, h⟩ := bnd_some h
  refine aw_cV (P' := pX7_kind) (idx := 47) (d' := 1) (c := 7) (n := 0) (k := 50) [aI (σ.1 49 4)] [] (ov := (some (aI r21))) (stk2 := [aI r21]) okp_X7_kind (by decide +kernel) ml_RX3_47 vok_X7_kind (by decide) rfl nar_X7_kind (by decide) rfl (Nat.le_of_ble_eq_true rfl) (ok_X7_kind h19) rfl ?_
  refine aw_seq [(.istore_n 1, 1, ax0), (.iload_n 1, 1, ax0), (.bipush 11, 2, (axI 11))] (pc' := 15) (L' := [some (aR 3 0 49), some (aI r21)]) (stk' := [aI 11, aI r21]) (σ' := σ20) (g := []) (by decide +kernel) rfl rfl ?_
  refine aw_icmp_le (off := 11) (tgt := 26) (by decide +kernel) (by decide) (fun c1 => ?_) (fun c1 => ?_)
  · rw [if_pos c1] at h
    refine aw_seq [(.iload_n 1, 1, ax0), (.iconst 3, 1, (axI 3))] (pc' := 28) (L' := [some (aR 3 0 49), some (aI r21)]) (stk' := [aI 3, aI r21]) (σ' := σ20) (g := []) (by decide +kernel) rfl rfl ?_
    refine aw_icmp_ge (off := 21) (tgt := 49) (by decide +kernel) (by decide) (fun c1 => ?_) (fun c1 => ?_)
    · rw [if_pos c1] at h
      refine aw_forget (L' := [some (aR 3 0 49), some (aI r21)]) (lsub_s (lsub_s (lsub_0))) ?_
      exact ok_X3_clause_49 r21 σ20 _ h
    · rw [if_neg c1] at h
      obtain ⟨hg, h⟩ := grd_some h
      refine aw_seq [(.aload_n 0, 1, ax0), (.getfield 30, 3, (axF 3 10 (2, 8, 13, some 3))), (.iload_n 1, 1, ax0), (.iaload, 1, ax0), (.iconst (-1), 1, (axI (-1)))] (pc' := 38) (L' := [some (aR 3 0 49), some (aI r21)]) (stk' := [aI (-1), aI (σ20.1 57 (ix r21))]) (σ' := σ20) (g := [inb r21 3]) (by decide +kernel) rfl hg ?_
      refine aw_icmp_eq (off := 11) (tgt := 49) (by decide +kernel) (by decide) (fun c1 => ?_) (fun c1 => ?_)
      · rw [if_pos c1] at h
        refine aw_forget (L' := [some (aR 3 0 49), some (aI r21)]) (lsub_s (lsub_s (lsub_0))) ?_
        exact ok_X3_clause_49 r21 σ20 _ h
      · rw [if_neg c1] at h
        refine aw_seq [(.aload_n 0, 1, ax0), (.iconst 4, 1, (axI 4))] (pc' := 43) (L' := [some (aR 3 0 49), some (aI r21)]) (stk' := [aI 4, aR 3 0 49]) (σ' := σ20) (g := []) (by decide +kernel) rfl rfl ?_
        obtain ⟨σ23, h22, h⟩ := bndV_some h
        refine aw_cV (P' := pX3_fail) (idx := 90) (d' := 2) (c := 3) (n := 0) (k := 49) [aI 4] [] (ov := none) (stk2 := []) okp_X3_fail (by decide +kernel) ml_RX3_90 vok_X3_fail (by decide) rfl nar_X3_fail (by decide) rfl (Nat.le_of_ble_eq_true rfl) (ok_X3_fail h22) rfl ?_
        refine aw_goto (off := 88) (tgt := 134) (by decide +kernel) (by decide) ?_
        refine aw_forget (L' := [none, none]) (lsub_n (lsub_n (lsub_0))) ?_
        exact ok_X3_clause_134 σ23 _ h
  · rw [if_neg c1] at h
    refine aw_seq [(.aload_n 0, 1, ax0), (.iconst 1, 1, (axI 1))] (pc' := 20) (L' := [some (aR 3 0 49), some (aI r21)]) (stk' := [aI 1, aR 3 0 49]) (σ' := σ20) (g := []) (by decide +kernel) rfl rfl ?_
    obtain ⟨σ25, h24, h⟩ := bndV_some h
    refine aw_cV (P' := pX3_fail) (idx := 90) (d' := 2) (c := 3) (n := 0) (k := 49) [aI 1] [] (ov := none) (stk2 := []) okp_X3_fail (by decide +kernel) ml_RX3_90 vok_X3_fail (by decide) rfl nar_X3_fail (by decide) rfl (Nat.le_of_ble_eq_true rfl) (ok_X3_fail h24) rfl ?_
    refine aw_goto (off := 111) (tgt := 134) (by decide +kernel) (by decide) ?_
    refine aw_forget (L' := [none, none]) (lsub_n (lsub_n (lsub_0))) ?_
    exact ok_X3_clause_134 σ25 _ h
def f_X7_add_52    (σ : Sg) : Option Sg :=
  some σ
set_option maxRecDepth 100000 in
set_option maxHeartbeats 4000000 in
theorem ok_X7_add_52 {κ : Kd}    : ∀  (σ : Sg) (q : Sg), f_X7_add_52  σ = some q → AW κ pX7_add 1 (none, q) 52 [none, none, none, none] [] σ := by
  intro  σ q h
  unfold f_X7_add_52 at h
  cases h
  exact aw_vret rfl (by decide +kernel)
def f_X7_add (v1 : Int32) (v2 : Int32) (v3 : Int32) (σ : Sg) : Option Sg :=
  if 301 ≤ (σ.1 50 3) then (
    f_X7_add_52 σ
  ) else (
    grd (inb (σ.1 50 3) 301 && true) <|
    ltσ (wI σ 51 (ix (σ.1 50 3)) v1) fun σ1 =>
    grd (inb (σ1.1 50 3) 301 && true) <|
    ltσ (wI σ1 52 (ix (σ1.1 50 3)) v2) fun σ3 =>
    grd (inb (σ3.1 50 3) 301 && true) <|
    ltσ (wI σ3 53 (ix (σ3.1 50 3)) v3) fun σ5 =>
    ltσ (wI σ5 50 3 ((σ5.1 50 3) + 1)) fun σ7 =>
    f_X7_add_52 σ7
  )
set_option maxRecDepth 100000 in
set_option maxHeartbeats 4000000 in
theorem ok_X7_add {κ : Kd} {v1 : Int32} {v2 : Int32} {v3 : Int32} {σ : Sg} {q : Sg} (h : f_X7_add v1 v2 v3 σ = some q) : AMet κ pX7_add 1 [aR 7 0 50, aI v1, aI v2, aI v3] σ (none, q) := by
  unfold f_X7_add at h
  refine amet_of okp_X7_add [(false, aR 7 0 50), (false, aI v1), (false, aI v2), (false, aI v3)] (List.forall_mem_cons.mpr ⟨rfl, List.forall_mem_cons.mpr ⟨rfl, List.forall_mem_cons.mpr ⟨rfl, List.forall_mem_cons.mpr ⟨rfl, (fun _ hn => absurd hn List.not_mem_nil)⟩⟩⟩⟩) 0 rfl ?_
  show AW κ pX7_add 1 (none, q) 0 [some (aR 7 0 50), some (aI v1), some (aI v2), some (aI v3)] [] σ
  refine aw_seq [(.aload_n 0, 1, ax0), (.getfield 21, 3, (axF 7 3 (0, 0, 0, none))), (.aload_n 0, 1, ax0), (.getfield 9, 3, (axF 7 0 (2, 1, 13, some 301))), (.arraylength, 1, ax0)] (pc' := 9) (L' := [some (aR 7 0 50), some (aI v1), some (aI v2), some (aI v3)]) (stk' := [aI 301, aI (σ.1 50 3)]) (σ' := σ) (g := []) (by decide +kernel) rfl rfl ?_
  refine aw_icmp_ge (off := 43) (tgt := 52) (by decide +kernel) (by decide) (fun c1 => ?_) (fun c1 => ?_)
  · rw [if_pos c1] at h
    refine aw_forget (L' := [none, none, none, none]) (lsub_n (lsub_n (lsub_n (lsub_n (lsub_0))))) ?_
    exact ok_X7_add_52 σ _ h
  · rw [if_neg c1] at h
    obtain ⟨hg, h⟩ := grd_some h
    obtain ⟨σ1, e2, h⟩ := ltσ_some h
    refine aw_seq [(.aload_n 0, 1, ax0), (.getfield 9, 3, (axF 7 0 (2, 1, 13, some 301))), (.aload_n 0, 1, ax0), (.getfield 21, 3, (axF 7 3 (0, 0, 0, none))), (.iload_n 1, 1, ax0), (.iastore, 1, ax0)] (pc' := 22) (L' := [some (aR 7 0 50), some (aI v1), some (aI v2), some (aI v3)]) (stk' := []) (σ' := σ1) (g := [inb (σ.1 50 3) 301]) (by decide +kernel) (by rw [e2]; rfl) hg ?_
    obtain ⟨hg, h⟩ := grd_some h
    obtain ⟨σ3, e4, h⟩ := ltσ_some h
    refine aw_seq [(.aload_n 0, 1, ax0), (.getfield 15, 3, (axF 7 1 (2, 2, 13, some 301))), (.aload_n 0, 1, ax0), (.getfield 21, 3, (axF 7 3 (0, 0, 0, none))), (.iload_n 2, 1, ax0), (.iastore, 1, ax0)] (pc' := 32) (L' := [some (aR 7 0 50), some (aI v1), some (aI v2), some (aI v3)]) (stk' := []) (σ' := σ3) (g := [inb (σ1.1 50 3) 301]) (by decide +kernel) (by rw [e4]; rfl) hg ?_
    obtain ⟨hg, h⟩ := grd_some h
    obtain ⟨σ5, e6, h⟩ := ltσ_some h
    refine aw_seq [(.aload_n 0, 1, ax0), (.getfield 18, 3, (axF 7 2 (2, 3, 13, some 301))), (.aload_n 0, 1, ax0), (.getfield 21, 3, (axF 7 3 (0, 0, 0, none))), (.iload_n 3, 1, ax0), (.iastore, 1, ax0)] (pc' := 42) (L' := [some (aR 7 0 50), some (aI v1), some (aI v2), some (aI v3)]) (stk' := []) (σ' := σ5) (g := [inb (σ3.1 50 3) 301]) (by decide +kernel) (by rw [e6]; rfl) hg ?_
    obtain ⟨σ7, e8, h⟩ := ltσ_some h
    refine aw_seq [(.aload_n 0, 1, ax0), (.dup, 1, ax0), (.getfield 21, 3, (axF 7 3 (0, 0, 0, none))), (.iconst 1, 1, (axI 1)), (.iadd, 1, ax0), (.putfield 21, 3, (axF 7 3 (0, 0, 0, none)))] (pc' := 52) (L' := [some (aR 7 0 50), some (aI v1), some (aI v2), some (aI v3)]) (stk' := []) (σ' := σ7) (g := []) (by decide +kernel) (by rw [e8]; rfl) rfl ?_
    refine aw_forget (L' := [none, none, none, none]) (lsub_n (lsub_n (lsub_n (lsub_n (lsub_0))))) ?_
    exact ok_X7_add_52 σ7 _ h
def f_X7_isDigit (v0 : Int32) (σ : Sg) : Option (Int32 × Sg) :=
  bnd (f_X11_within v0 48 57 σ) fun r3 σ2 =>
  grd (bz r3) <| some (r3, σ2)
set_option maxRecDepth 100000 in
set_option maxHeartbeats 4000000 in
theorem ok_X7_isDigit {κ : Kd} {v0 : Int32} {σ : Sg} {q : (Int32 × Sg)} (h : f_X7_isDigit v0 σ = some q) : AMet κ pX7_isDigit 2 [aI v0] σ (some (aI q.1), q.2) := by
  unfold f_X7_isDigit at h
  refine amet_of okp_X7_isDigit [(false, aI v0)] (List.forall_mem_cons.mpr ⟨rfl, (fun _ hn => absurd hn List.not_mem_nil)⟩) 0 rfl ?_
  show AW κ pX7_isDigit 2 (some (aI q.1), q.2) 0 [some (aI v0)] [] σ
  refine aw_seq [(.iload_n 0, 1, ax0), (.bipush 48, 2, (axI 48)), (.bipush 57, 2, (axI 57))] (pc' := 5) (L' := [some (aI v0)]) (stk' := [aI 57, aI 48, aI v0]) (σ' := σ) (g := []) (by decide +kernel) rfl rfl ?_
  obtain ⟨r3, σ2, h1, h⟩ := bnd_some h
  refine aw_cSN (P' := pX11_within) (idx := 53) (d' := 1) [aI v0, aI 48, aI 57] [] (ov := (some (aI r3))) (stk2 := [aI r3]) okp_X11_within (by decide +kernel) ml_RX7_53 tok_X11_within nar_X11_within (by decide) rfl (Nat.le_of_ble_eq_true rfl) (ok_X11_within h1) rfl ?_
  obtain ⟨hg, h⟩ := grd_some h
  cases h
  exact aw_zret rfl hg (by decide +kernel)
def f_X7_isLetter_27   (s0 : Int32) (σ : Sg) : Option (Int32 × Sg) :=
  grd (bz s0) <| some (s0, σ)
set_option maxRecDepth 100000 in
set_option maxHeartbeats 4000000 in
theorem ok_X7_isLetter_27 {κ : Kd}    : ∀ (s0 : Int32) (σ : Sg) (q : (Int32 × Sg)), f_X7_isLetter_27 s0 σ = some q → AW κ pX7_isLetter 2 (some (aI q.1), q.2) 27 [none] [aI s0] σ := by
  intro s0 σ q h
  unfold f_X7_isLetter_27 at h
  obtain ⟨hg, h⟩ := grd_some h
  cases h
  exact aw_zret rfl hg (by decide +kernel)
def f_X7_isLetter_22    (σ : Sg) : Option (Int32 × Sg) :=
  f_X7_isLetter_27 1 σ
set_option maxRecDepth 100000 in
set_option maxHeartbeats 4000000 in
theorem ok_X7_isLetter_22 {κ : Kd}    : ∀  (σ : Sg) (q : (Int32 × Sg)), f_X7_isLetter_22  σ = some q → AW κ pX7_isLetter 2 (some (aI q.1), q.2) 22 [none] [] σ := by
  intro  σ q h
  unfold f_X7_isLetter_22 at h
  refine aw_seq [(.iconst 1, 1, (axI 1))] (pc' := 23) (L' := [none]) (stk' := [aI 1]) (σ' := σ) (g := []) (by decide +kernel) rfl rfl ?_
  refine aw_goto (off := 4) (tgt := 27) (by decide +kernel) (by decide) ?_
  refine aw_forget (L' := [none]) (lsub_n (lsub_0)) ?_
  exact ok_X7_isLetter_27 1 σ _ h
def f_X7_isLetter (v0 : Int32) (σ : Sg) : Option (Int32 × Sg) :=
  bnd (f_X11_within v0 97 122 σ) fun r3 σ2 =>
  if r3 = 0 then (
    bnd (f_X11_within v0 65 90 σ2) fun r6 σ5 =>
    if r6 = 0 then (
      f_X7_isLetter_27 0 σ5
    ) else (
      f_X7_isLetter_22 σ5
    )
  ) else (
    f_X7_isLetter_22 σ2
  )
set_option maxRecDepth 100000 in
set_option maxHeartbeats 4000000 in
theorem ok_X7_isLetter {κ : Kd} {v0 : Int32} {σ : Sg} {q : (Int32 × Sg)} (h : f_X7_isLetter v0 σ = some q) : AMet κ pX7_isLetter 2 [aI v0] σ (some (aI q.1), q.2) := by
  unfold f_X7_isLetter at h
  refine amet_of okp_X7_isLetter [(false, aI v0)] (List.forall_mem_cons.mpr ⟨rfl, (fun _ hn => absurd hn List.not_mem_nil)⟩) 0 rfl ?_
  show AW κ pX7_isLetter 2 (some (aI q.1), q.2) 0 [some (aI v0)] [] σ
  refine aw_seq [(.iload_n 0, 1, ax0), (.bipush 97, 2, (axI 97)), (.bipush 122, 2, (axI 122))] (pc' := 5) (L' := [some (aI v0)]) (stk' := [aI 122, aI 97, aI v0]) (σ' := σ) (g := []) (by decide +kernel) rfl rfl ?_
  obtain ⟨r3, σ2, h1, h⟩ := bnd_some h
  refine aw_cSN (P' := pX11_within) (idx := 53) (d' := 1) [aI v0, aI 97, aI 122] [] (ov := (some (aI r3))) (stk2 := [aI r3]) okp_X11_within (by decide +kernel) ml_RX7_53 tok_X11_within nar_X11_within (by decide) rfl (Nat.le_of_ble_eq_true rfl) (ok_X11_within h1) rfl ?_
  refine aw_if_ne (off := 14) (tgt := 22) (by decide +kernel) (by decide) (fun c1 => ?_) (fun c1 => ?_)
  · rw [if_neg c1] at h
    refine aw_forget (L' := [none]) (lsub_n (lsub_0)) ?_
    exact ok_X7_isLetter_22 σ2 _ h
  · rw [if_pos c1] at h
    refine aw_seq [(.iload_n 0, 1, ax0), (.bipush 65, 2, (axI 65)), (.bipush 90, 2, (axI 90))] (pc' := 16) (L' := [some (aI v0)]) (stk' := [aI 90, aI 65, aI v0]) (σ' := σ2) (g := []) (by decide +kernel) rfl rfl ?_
    obtain ⟨r6, σ5, h4, h⟩ := bnd_some h
    refine aw_cSN (P' := pX11_within) (idx := 53) (d' := 1) [aI v0, aI 65, aI 90] [] (ov := (some (aI r6))) (stk2 := [aI r6]) okp_X11_within (by decide +kernel) ml_RX7_53 tok_X11_within nar_X11_within (by decide) rfl (Nat.le_of_ble_eq_true rfl) (ok_X11_within h4) rfl ?_
    refine aw_if_eq (off := 7) (tgt := 26) (by decide +kernel) (by decide) (fun c1 => ?_) (fun c1 => ?_)
    · rw [if_pos c1] at h
      refine aw_seq [(.iconst 0, 1, (axI 0))] (pc' := 27) (L' := [some (aI v0)]) (stk' := [aI 0]) (σ' := σ5) (g := []) (by decide +kernel) rfl rfl ?_
      refine aw_forget (L' := [none]) (lsub_n (lsub_0)) ?_
      exact ok_X7_isLetter_27 0 σ5 _ h
    · rw [if_neg c1] at h
      refine aw_forget (L' := [none]) (lsub_n (lsub_0)) ?_
      exact ok_X7_isLetter_22 σ5 _ h
def f_J0_isLatin1_aae02_18 (j : Nat)  (s0 : Int32) (σ : Sg) : Option (Int32 × Sg) :=
  grd (bz s0) <| some (s0, σ)
set_option maxRecDepth 100000 in
set_option maxHeartbeats 4000000 in
theorem ok_J0_isLatin1_aae02_18 {κ : Kd} {j : Nat}   : ∀ (s0 : Int32) (σ : Sg) (q : (Int32 × Sg)), f_J0_isLatin1_aae02_18 j s0 σ = some q → AW κ pJ0_isLatin1_aae02 1 (some (aI q.1), q.2) 18 [none] [aI s0] σ := by
  intro s0 σ q h
  unfold f_J0_isLatin1_aae02_18 at h
  obtain ⟨hg, h⟩ := grd_some h
  cases h
  exact aw_zret rfl hg (by decide +kernel)
def f_J0_isLatin1_aae02_17 (j : Nat)   (σ : Sg) : Option (Int32 × Sg) :=
  f_J0_isLatin1_aae02_18 j 0 σ
set_option maxRecDepth 100000 in
set_option maxHeartbeats 4000000 in
theorem ok_J0_isLatin1_aae02_17 {κ : Kd} {j : Nat}   : ∀  (σ : Sg) (q : (Int32 × Sg)), f_J0_isLatin1_aae02_17 j  σ = some q → AW κ pJ0_isLatin1_aae02 1 (some (aI q.1), q.2) 17 [none] [] σ := by
  intro  σ q h
  unfold f_J0_isLatin1_aae02_17 at h
  refine aw_seq [(.iconst 0, 1, (axI 0))] (pc' := 18) (L' := [none]) (stk' := [aI 0]) (σ' := σ) (g := []) (by decide +kernel) rfl rfl ?_
  refine aw_forget (L' := [none]) (lsub_n (lsub_0)) ?_
  exact ok_J0_isLatin1_aae02_18 0 σ _ h
def f_J0_isLatin1_aae02 (j : Nat) (σ : Sg) : Option (Int32 × Sg) :=
  if (1 : Int32) = 0 then (
    f_J0_isLatin1_aae02_17 j σ
  ) else (
    if (0 : Int32) = 0 then (
      f_J0_isLatin1_aae02_18 j 1 σ
    ) else (
      f_J0_isLatin1_aae02_17 j σ
    )
  )
set_option maxRecDepth 100000 in
set_option maxHeartbeats 4000000 in
theorem ok_J0_isLatin1_aae02 {κ : Kd} {j : Nat} {σ : Sg} {q : (Int32 × Sg)} (h : f_J0_isLatin1_aae02 j σ = some q) : AMet κ pJ0_isLatin1_aae02 1 [aR 20 j (SB + j)] σ (some (aI q.1), q.2) := by
  unfold f_J0_isLatin1_aae02 at h
  refine amet_of okp_J0_isLatin1_aae02 [(false, aR 20 j (SB + j))] (List.forall_mem_cons.mpr ⟨rfl, (fun _ hn => absurd hn List.not_mem_nil)⟩) 0 rfl ?_
  show AW κ pJ0_isLatin1_aae02 1 (some (aI q.1), q.2) 0 [some (aR 20 j (SB + j))] [] σ
  refine aw_compact (idx := 38) (wsm_2 (i := 214) rfl rfl) (by decide +kernel) ?_
  refine aw_if_eq (off := 14) (tgt := 17) (by decide +kernel) (by decide) (fun c1 => ?_) (fun c1 => ?_)
  · rw [if_pos c1] at h
    refine aw_forget (L' := [none]) (lsub_n (lsub_0)) ?_
    exact ok_J0_isLatin1_aae02_17 σ _ h
  · rw [if_neg c1] at h
    refine aw_seq [(.aload_n 0, 1, ax0)] (pc' := 7) (L' := [some (aR 20 j (SB + j))]) (stk' := [aR 20 j (SB + j)]) (σ' := σ) (g := []) (by decide +kernel) rfl rfl ?_
    refine aw_strCoder (idx := 15) (wsm_8 (i := 221) rfl rfl) (by decide +kernel) ?_
    refine aw_if_ne (off := 7) (tgt := 17) (by decide +kernel) (by decide) (fun c1 => ?_) (fun c1 => ?_)
    · rw [if_neg c1] at h
      refine aw_forget (L' := [none]) (lsub_n (lsub_0)) ?_
      exact ok_J0_isLatin1_aae02_17 σ _ h
    · rw [if_pos c1] at h
      refine aw_seq [(.iconst 1, 1, (axI 1))] (pc' := 14) (L' := [some (aR 20 j (SB + j))]) (stk' := [aI 1]) (σ' := σ) (g := []) (by decide +kernel) rfl rfl ?_
      refine aw_goto (off := 4) (tgt := 18) (by decide +kernel) (by decide) ?_
      refine aw_forget (L' := [none]) (lsub_n (lsub_0)) ?_
      exact ok_J0_isLatin1_aae02_18 1 σ _ h
def f_J0_coder_7d493_14 (j : Nat)  (s0 : Int32) (σ : Sg) : Option (Int32 × Sg) :=
  grd (byz s0) <| some (s0, σ)
set_option maxRecDepth 100000 in
set_option maxHeartbeats 4000000 in
theorem ok_J0_coder_7d493_14 {κ : Kd} {j : Nat}   : ∀ (s0 : Int32) (σ : Sg) (q : (Int32 × Sg)), f_J0_coder_7d493_14 j s0 σ = some q → AW κ pJ0_coder_7d493 1 (some (aI q.1), q.2) 14 [none] [aI s0] σ := by
  intro s0 σ q h
  unfold f_J0_coder_7d493_14 at h
  obtain ⟨hg, h⟩ := grd_some h
  cases h
  exact aw_bret rfl (of_decide_eq_true hg) (by decide +kernel)
def f_J0_coder_7d493 (j : Nat) (σ : Sg) : Option (Int32 × Sg) :=
  if (1 : Int32) = 0 then (
    f_J0_coder_7d493_14 j 1 σ
  ) else (
    f_J0_coder_7d493_14 j 0 σ
  )
set_option maxRecDepth 100000 in
set_option maxHeartbeats 4000000 in
theorem ok_J0_coder_7d493 {κ : Kd} {j : Nat} {σ : Sg} {q : (Int32 × Sg)} (h : f_J0_coder_7d493 j σ = some q) : AMet κ pJ0_coder_7d493 1 [aR 20 j (SB + j)] σ (some (aI q.1), q.2) := by
  unfold f_J0_coder_7d493 at h
  refine amet_of okp_J0_coder_7d493 [(false, aR 20 j (SB + j))] (List.forall_mem_cons.mpr ⟨rfl, (fun _ hn => absurd hn List.not_mem_nil)⟩) 0 rfl ?_
  show AW κ pJ0_coder_7d493 1 (some (aI q.1), q.2) 0 [some (aR 20 j (SB + j))] [] σ
  refine aw_compact (idx := 38) (wsm_2 (i := 214) rfl rfl) (by decide +kernel) ?_
  refine aw_if_eq (off := 10) (tgt := 13) (by decide +kernel) (by decide) (fun c1 => ?_) (fun c1 => ?_)
  · rw [if_pos c1] at h
    refine aw_seq [(.iconst 1, 1, (axI 1))] (pc' := 14) (L' := [some (aR 20 j (SB + j))]) (stk' := [aI 1]) (σ' := σ) (g := []) (by decide +kernel) rfl rfl ?_
    refine aw_forget (L' := [none]) (lsub_n (lsub_0)) ?_
    exact ok_J0_coder_7d493_14 1 σ _ h
  · rw [if_neg c1] at h
    refine aw_seq [(.aload_n 0, 1, ax0)] (pc' := 7) (L' := [some (aR 20 j (SB + j))]) (stk' := [aR 20 j (SB + j)]) (σ' := σ) (g := []) (by decide +kernel) rfl rfl ?_
    refine aw_strCoder (idx := 15) (wsm_8 (i := 221) rfl rfl) (by decide +kernel) ?_
    refine aw_goto (off := 4) (tgt := 14) (by decide +kernel) (by decide) ?_
    refine aw_forget (L' := [none]) (lsub_n (lsub_0)) ?_
    exact ok_J0_coder_7d493_14 0 σ _ h
def f_J0_length_8abf5 (j : Nat) (σ : Sg) : Option (Int32 × Sg) :=
  bnd (f_J0_coder_7d493 j σ) fun r3 σ2 =>
  some ((shr (Int32.ofNat (lenS.getD j 0)) r3), σ2)
set_option maxRecDepth 100000 in
set_option maxHeartbeats 4000000 in
theorem ok_J0_length_8abf5 {κ : Kd} {j : Nat} {σ : Sg} {q : (Int32 × Sg)} (h : f_J0_length_8abf5 j σ = some q) : AMet κ pJ0_length_8abf5 2 [aR 20 j (SB + j)] σ (some (aI q.1), q.2) := by
  unfold f_J0_length_8abf5 at h
  refine amet_of okp_J0_length_8abf5 [(false, aR 20 j (SB + j))] (List.forall_mem_cons.mpr ⟨rfl, (fun _ hn => absurd hn List.not_mem_nil)⟩) 0 rfl ?_
  show AW κ pJ0_length_8abf5 2 (some (aI q.1), q.2) 0 [some (aR 20 j (SB + j))] [] σ
  refine aw_seq [(.aload_n 0, 1, ax0)] (pc' := 1) (L' := [some (aR 20 j (SB + j))]) (stk' := [aR 20 j (SB + j)]) (σ' := σ) (g := []) (by decide +kernel) rfl rfl ?_
  refine aw_strValue (idx := 9) (wsm_8 (i := 220) rfl rfl) (by decide +kernel) ?_
  refine aw_strLen (by decide +kernel) ?_
  refine aw_seq [(.aload_n 0, 1, ax0)] (pc' := 6) (L' := [some (aR 20 j (SB + j))]) (stk' := [aR 20 j (SB + j), aI (Int32.ofNat (lenS.getD j 0))]) (σ' := σ) (g := []) (by decide +kernel) rfl rfl ?_
  obtain ⟨r3, σ2, h1, h⟩ := bnd_some h
  refine aw_cVS (P' := pJ0_coder_7d493) (idx := 335) (d' := 1) (n := j) (k := (SB + j)) [] [aI (Int32.ofNat (lenS.getD j 0))] (ov := (some (aI r3))) (stk2 := [aI r3, aI (Int32.ofNat (lenS.getD j 0))]) okp_J0_coder_7d493 (by decide +kernel) ml_RJ0_335 vok_J0_coder_7d493 rfl nar_J0_coder_7d493 (by decide) rfl (Nat.le_of_ble_eq_true rfl) (ok_J0_coder_7d493 h1) rfl ?_
  refine aw_seq [(.ishr, 1, ax0)] (pc' := 10) (L' := [some (aR 20 j (SB + j))]) (stk' := [aI (shr (Int32.ofNat (lenS.getD j 0)) r3)]) (σ' := σ2) (g := []) (by decide +kernel) rfl rfl ?_
  cases h
  exact aw_iret rfl (by decide +kernel)
def f_J1_canEncode_9a6ad_16   (s0 : Int32) (σ : Sg) : Option (Int32 × Sg) :=
  grd (bz s0) <| some (s0, σ)
set_option maxRecDepth 100000 in
set_option maxHeartbeats 4000000 in
theorem ok_J1_canEncode_9a6ad_16 {κ : Kd}    : ∀ (s0 : Int32) (σ : Sg) (q : (Int32 × Sg)), f_J1_canEncode_9a6ad_16 s0 σ = some q → AW κ pJ1_canEncode_9a6ad 1 (some (aI q.1), q.2) 16 [none] [aI s0] σ := by
  intro s0 σ q h
  unfold f_J1_canEncode_9a6ad_16 at h
  obtain ⟨hg, h⟩ := grd_some h
  cases h
  exact aw_zret rfl hg (by decide +kernel)
def f_J1_canEncode_9a6ad_15    (σ : Sg) : Option (Int32 × Sg) :=
  f_J1_canEncode_9a6ad_16 0 σ
set_option maxRecDepth 100000 in
set_option maxHeartbeats 4000000 in
theorem ok_J1_canEncode_9a6ad_15 {κ : Kd}    : ∀  (σ : Sg) (q : (Int32 × Sg)), f_J1_canEncode_9a6ad_15  σ = some q → AW κ pJ1_canEncode_9a6ad 1 (some (aI q.1), q.2) 15 [none] [] σ := by
  intro  σ q h
  unfold f_J1_canEncode_9a6ad_15 at h
  refine aw_seq [(.iconst 0, 1, (axI 0))] (pc' := 16) (L' := [none]) (stk' := [aI 0]) (σ' := σ) (g := []) (by decide +kernel) rfl rfl ?_
  refine aw_forget (L' := [none]) (lsub_n (lsub_0)) ?_
  exact ok_J1_canEncode_9a6ad_16 0 σ _ h
def f_J1_canEncode_9a6ad (v0 : Int32) (σ : Sg) : Option (Int32 × Sg) :=
  if v0 < 0 then (
    f_J1_canEncode_9a6ad_15 σ
  ) else (
    if 255 < v0 then (
      f_J1_canEncode_9a6ad_15 σ
    ) else (
      f_J1_canEncode_9a6ad_16 1 σ
    )
  )
set_option maxRecDepth 100000 in
set_option maxHeartbeats 4000000 in
theorem ok_J1_canEncode_9a6ad {κ : Kd} {v0 : Int32} {σ : Sg} {q : (Int32 × Sg)} (h : f_J1_canEncode_9a6ad v0 σ = some q) : AMet κ pJ1_canEncode_9a6ad 1 [aI v0] σ (some (aI q.1), q.2) := by
  unfold f_J1_canEncode_9a6ad at h
  refine amet_of okp_J1_canEncode_9a6ad [(false, aI v0)] (List.forall_mem_cons.mpr ⟨rfl, (fun _ hn => absurd hn List.not_mem_nil)⟩) 0 rfl ?_
  show AW κ pJ1_canEncode_9a6ad 1 (some (aI q.1), q.2) 0 [some (aI v0)] [] σ
  refine aw_seq [(.iload_n 0, 1, ax0)] (pc' := 1) (L' := [some (aI v0)]) (stk' := [aI v0]) (σ' := σ) (g := []) (by decide +kernel) rfl rfl ?_
  refine aw_if_lt (off := 14) (tgt := 15) (by decide +kernel) (by decide) (fun c1 => ?_) (fun c1 => ?_)
  · rw [if_pos c1] at h
    refine aw_forget (L' := [none]) (lsub_n (lsub_0)) ?_
    exact ok_J1_canEncode_9a6ad_15 σ _ h
  · rw [if_neg c1] at h
    refine aw_seq [(.iload_n 0, 1, ax0), (.sipush 255, 3, (axI 255))] (pc' := 8) (L' := [some (aI v0)]) (stk' := [aI 255, aI v0]) (σ' := σ) (g := []) (by decide +kernel) rfl rfl ?_
    refine aw_icmp_gt (off := 7) (tgt := 15) (by decide +kernel) (by decide) (fun c1 => ?_) (fun c1 => ?_)
    · rw [if_pos c1] at h
      refine aw_forget (L' := [none]) (lsub_n (lsub_0)) ?_
      exact ok_J1_canEncode_9a6ad_15 σ _ h
    · rw [if_neg c1] at h
      refine aw_seq [(.iconst 1, 1, (axI 1))] (pc' := 12) (L' := [some (aI v0)]) (stk' := [aI 1]) (σ' := σ) (g := []) (by decide +kernel) rfl rfl ?_
      refine aw_goto (off := 4) (tgt := 16) (by decide +kernel) (by decide) ?_
      refine aw_forget (L' := [none]) (lsub_n (lsub_0)) ?_
      exact ok_J1_canEncode_9a6ad_16 1 σ _ h
def f_J1_indexOfChar_4cfef_7 (j : Nat)  : Nat → Int32 → Int32 → Int32 → Sg → Option (Int32 × Sg)
  | 0, _, _, _, _ => none
  | fu + 1, v3, v4, v5, σ =>
    if v3 ≤ v5 then (
      some ((-1), σ)
    ) else (
      grd (inb v5 (lenS.getD j 0)) <|
      if ((bytS.getD j []).getD (ix v5) 0) = v4 then (
        some (v5, σ)
      ) else (
        (f_J1_indexOfChar_4cfef_7 j fu) v3 v4 (v5 + 1) σ
      )
    )
set_option maxRecDepth 100000 in
set_option maxHeartbeats 4000000 in
theorem ok_J1_indexOfChar_4cfef_7 {κ : Kd} {j : Nat}   : ∀ (fu : Nat) (v3 : Int32) (v4 : Int32) (v5 : Int32) (σ : Sg) (q : (Int32 × Sg)), f_J1_indexOfChar_4cfef_7 j fu v3 v4 v5 σ = some q → AW κ pJ1_indexOfChar_4cfef 1 (some (aI q.1), q.2) 7 [some (aR 21 j (SV + j)), none, none, some (aI v3), some (aI v4), some (aI v5)] [] σ := by
  intro fu
  induction fu with
  | zero =>
    intro v3 v4 v5 σ q h
    unfold f_J1_indexOfChar_4cfef_7 at h
    cases h
  | succ fu ih =>
    intro v3 v4 v5 σ q h
    unfold f_J1_indexOfChar_4cfef_7 at h
    refine aw_seq [(.iload 5, 2, ax0), (.iload_n 3, 1, ax0)] (pc' := 10) (L' := [some (aR 21 j (SV + j)), none, none, some (aI v3), some (aI v4), some (aI v5)]) (stk' := [aI v3, aI v5]) (σ' := σ) (g := []) (by decide +kernel) rfl rfl ?_
    refine aw_icmp_ge (off := 21) (tgt := 31) (by decide +kernel) (by decide) (fun c1 => ?_) (fun c1 => ?_)
    · rw [if_pos c1] at h
      refine aw_seq [(.iconst (-1), 1, (axI (-1)))] (pc' := 32) (L' := [some (aR 21 j (SV + j)), none, none, some (aI v3), some (aI v4), some (aI v5)]) (stk' := [aI (-1)]) (σ' := σ) (g := []) (by decide +kernel) rfl rfl ?_
      cases h
      exact aw_iret rfl (by decide +kernel)
    · rw [if_neg c1] at h
      refine aw_seq [(.aload_n 0, 1, ax0), (.iload 5, 2, ax0)] (pc' := 16) (L' := [some (aR 21 j (SV + j)), none, none, some (aI v3), some (aI v4), some (aI v5)]) (stk' := [aI v5, aR 21 j (SV + j)]) (σ' := σ) (g := []) (by decide +kernel) rfl rfl ?_
      obtain ⟨hg, h⟩ := grd_some h
      refine aw_strByte hg (by decide +kernel) ?_
      refine aw_seq [(.iload 4, 2, ax0)] (pc' := 19) (L' := [some (aR 21 j (SV + j)), none, none, some (aI v3), some (aI v4), some (aI v5)]) (stk' := [aI v4, aI ((bytS.getD j []).getD (ix v5) 0)]) (σ' := σ) (g := []) (by decide +kernel) rfl rfl ?_
      refine aw_icmp_ne (off := 6) (tgt := 25) (by decide +kernel) (by decide) (fun c1 => ?_) (fun c1 => ?_)
      · rw [if_neg c1] at h
        refine aw_seq [(.iinc 5 1, 3, (axI 1))] (pc' := 28) (L' := [some (aR 21 j (SV + j)), none, none, some (aI v3), some (aI v4), some (aI (v5 + 1))]) (stk' := []) (σ' := σ) (g := []) (by decide +kernel) rfl rfl ?_
        refine aw_goto (off := (-21)) (tgt := 7) (by decide +kernel) (by decide) ?_
        refine aw_forget (L' := [some (aR 21 j (SV + j)), none, none, some (aI v3), some (aI v4), some (aI (v5 + 1))]) (lsub_s (lsub_n (lsub_n (lsub_s (lsub_s (lsub_s (lsub_0))))))) ?_
        exact ih v3 v4 (v5 + 1) σ _ h
      · rw [if_pos c1] at h
        refine aw_seq [(.iload 5, 2, ax0)] (pc' := 24) (L' := [some (aR 21 j (SV + j)), none, none, some (aI v3), some (aI v4), some (aI v5)]) (stk' := [aI v5]) (σ' := σ) (g := []) (by decide +kernel) rfl rfl ?_
        cases h
        exact aw_iret rfl (by decide +kernel)
def f_J1_indexOfChar_4cfef (j : Nat) (v1 : Int32) (v2 : Int32) (v3 : Int32) (σ : Sg) : Option (Int32 × Sg) :=
  f_J1_indexOfChar_4cfef_7 j FU v3 (i2b v1) v2 σ
set_option maxRecDepth 100000 in
set_option maxHeartbeats 4000000 in
theorem ok_J1_indexOfChar_4cfef {κ : Kd} {j : Nat} {v1 : Int32} {v2 : Int32} {v3 : Int32} {σ : Sg} {q : (Int32 × Sg)} (h : f_J1_indexOfChar_4cfef j v1 v2 v3 σ = some q) : AMet κ pJ1_indexOfChar_4cfef 1 [aR 21 j (SV + j), aI v1, aI v2, aI v3] σ (some (aI q.1), q.2) := by
  unfold f_J1_indexOfChar_4cfef at h
  refine amet_of okp_J1_indexOfChar_4cfef [(false, aR 21 j (SV + j)), (false, aI v1), (false, aI v2), (false, aI v3)] (List.forall_mem_cons.mpr ⟨rfl, List.forall_mem_cons.mpr ⟨rfl, List.forall_mem_cons.mpr ⟨rfl, List.forall_mem_cons.mpr ⟨rfl, (fun _ hn => absurd hn List.not_mem_nil)⟩⟩⟩⟩) 2 rfl ?_
  show AW κ pJ1_indexOfChar_4cfef 1 (some (aI q.1), q.2) 0 [some (aR 21 j (SV + j)), some (aI v1), some (aI v2), some (aI v3), none, none] [] σ
  refine aw_seq [(.iload_n 1, 1, ax0), (.i2b, 1, ax0), (.istore 4, 2, ax0), (.iload_n 2, 1, ax0), (.istore 5, 2, ax0)] (pc' := 7) (L' := [some (aR 21 j (SV + j)), some (aI v1), some (aI v2), some (aI v3), some (aI (i2b v1)), some (aI v2)]) (stk' := []) (σ' := σ) (g := []) (by decide +kernel) rfl rfl ?_
  refine aw_forget (L' := [some (aR 21 j (SV + j)), none, none, some (aI v3), some (aI (i2b v1)), some (aI v2)]) (lsub_s (lsub_n (lsub_n (lsub_s (lsub_s (lsub_s (lsub_0))))))) ?_
  exact ok_J1_indexOfChar_4cfef_7 FU v3 (i2b v1) v2 σ _ h
def f_J1_indexOf_4cfef (j : Nat) (v1 : Int32) (v2 : Int32) (v3 : Int32) (σ : Sg) : Option (Int32 × Sg) :=
  bnd (f_J1_canEncode_9a6ad v1 σ) fun r3 σ2 =>
  if r3 = 0 then (
    some ((-1), σ2)
  ) else (
    if (imax v2 0) < (imin v3 (Int32.ofNat (lenS.getD j 0))) then (
      bnd (f_J1_indexOfChar_4cfef j v1 (imax v2 0) (imin v3 (Int32.ofNat (lenS.getD j 0))) σ2) fun r6 σ5 =>
      some (r6, σ5)
    ) else (
      some ((-1), σ2)
    )
  )
set_option maxRecDepth 100000 in
set_option maxHeartbeats 4000000 in
theorem ok_J1_indexOf_4cfef {κ : Kd} {j : Nat} {v1 : Int32} {v2 : Int32} {v3 : Int32} {σ : Sg} {q : (Int32 × Sg)} (h : f_J1_indexOf_4cfef j v1 v2 v3 σ = some q) : AMet κ pJ1_indexOf_4cfef 2 [aR 21 j (SV + j), aI v1, aI v2, aI v3] σ (some (aI q.1), q.2) := by
  unfold f_J1_indexOf_4cfef at h
  refine amet_of okp_J1_indexOf_4cfef [(false, aR 21 j (SV + j)), (false, aI v1), (false, aI v2), (false, aI v3)] (List.forall_mem_cons.mpr ⟨rfl, List.forall_mem_cons.mpr ⟨rfl, List.forall_mem_cons.mpr ⟨rfl, List.forall_mem_cons.mpr ⟨rfl, (fun _ hn => absurd hn List.not_mem_nil)⟩⟩⟩⟩) 0 rfl ?_
  show AW κ pJ1_indexOf_4cfef 2 (some (aI q.1), q.2) 0 [some (aR 21 j (SV + j)), some (aI v1), some (aI v2), some (aI v3)] [] σ
  refine aw_seq [(.iload_n 1, 1, ax0)] (pc' := 1) (L' := [some (aR 21 j (SV + j)), some (aI v1), some (aI v2), some (aI v3)]) (stk' := [aI v1]) (σ' := σ) (g := []) (by decide +kernel) rfl rfl ?_
  obtain ⟨r3, σ2, h1, h⟩ := bnd_some h
  refine aw_cS (P' := pJ1_canEncode_9a6ad) (idx := 88) (d' := 1) [aI v1] [] (ov := (some (aI r3))) (stk2 := [aI r3]) okp_J1_canEncode_9a6ad (by decide +kernel) ml_RJ1_88 tok_J1_canEncode_9a6ad nar_J1_canEncode_9a6ad (by decide) rfl (Nat.le_of_ble_eq_true rfl) (ok_J1_canEncode_9a6ad h1) rfl ?_
  refine aw_if_ne (off := 5) (tgt := 9) (by decide +kernel) (by decide) (fun c1 => ?_) (fun c1 => ?_)
  · rw [if_neg c1] at h
    refine aw_seq [(.iload_n 2, 1, ax0), (.iconst 0, 1, (axI 0))] (pc' := 11) (L' := [some (aR 21 j (SV + j)), some (aI v1), some (aI v2), some (aI v3)]) (stk' := [aI 0, aI v2]) (σ' := σ2) (g := []) (by decide +kernel) rfl rfl ?_
    refine aw_imax (idx := 92) (by decide) (Nat.le_of_ble_eq_true rfl) jw_imax ml_RJ1_92 (by decide +kernel) ?_
    refine aw_seq [(.istore_n 2, 1, ax0), (.iload_n 3, 1, ax0), (.aload_n 0, 1, ax0)] (pc' := 17) (L' := [some (aR 21 j (SV + j)), some (aI v1), some (aI (imax v2 0)), some (aI v3)]) (stk' := [aR 21 j (SV + j), aI v3]) (σ' := σ2) (g := []) (by decide +kernel) rfl rfl ?_
    refine aw_strLen (by decide +kernel) ?_
    refine aw_imin (idx := 38) (by decide) (Nat.le_of_ble_eq_true rfl) jw_imin ml_RJ1_38 (by decide +kernel) ?_
    refine aw_seq [(.istore_n 3, 1, ax0), (.iload_n 2, 1, ax0), (.iload_n 3, 1, ax0)] (pc' := 24) (L' := [some (aR 21 j (SV + j)), some (aI v1), some (aI (imax v2 0)), some (aI (imin v3 (Int32.ofNat (lenS.getD j 0))))]) (stk' := [aI (imin v3 (Int32.ofNat (lenS.getD j 0))), aI (imax v2 0)]) (σ' := σ2) (g := []) (by decide +kernel) rfl rfl ?_
    refine aw_icmp_lt (off := 5) (tgt := 29) (by decide +kernel) (by decide) (fun c1 => ?_) (fun c1 => ?_)
    · rw [if_pos c1] at h
      refine aw_seq [(.aload_n 0, 1, ax0), (.iload_n 1, 1, ax0), (.iload_n 2, 1, ax0), (.iload_n 3, 1, ax0)] (pc' := 33) (L' := [some (aR 21 j (SV + j)), some (aI v1), some (aI (imax v2 0)), some (aI (imin v3 (Int32.ofNat (lenS.getD j 0))))]) (stk' := [aI (imin v3 (Int32.ofNat (lenS.getD j 0))), aI (imax v2 0), aI v1, aR 21 j (SV + j)]) (σ' := σ2) (g := []) (by decide +kernel) rfl rfl ?_
      obtain ⟨r6, σ5, h4, h⟩ := bnd_some h
      refine aw_cS (P' := pJ1_indexOfChar_4cfef) (idx := 95) (d' := 1) [aR 21 j (SV + j), aI v1, aI (imax v2 0), aI (imin v3 (Int32.ofNat (lenS.getD j 0)))] [] (ov := (some (aI r6))) (stk2 := [aI r6]) okp_J1_indexOfChar_4cfef (by decide +kernel) ml_RJ1_95 tok_J1_indexOfChar_4cfef nar_J1_indexOfChar_4cfef (by decide) rfl (Nat.le_of_ble_eq_true rfl) (ok_J1_indexOfChar_4cfef h4) rfl ?_
      cases h
      exact aw_iret rfl (by decide +kernel)
    · rw [if_neg c1] at h
      refine aw_seq [(.iconst (-1), 1, (axI (-1)))] (pc' := 28) (L' := [some (aR 21 j (SV + j)), some (aI v1), some (aI (imax v2 0)), some (aI (imin v3 (Int32.ofNat (lenS.getD j 0))))]) (stk' := [aI (-1)]) (σ' := σ2) (g := []) (by decide +kernel) rfl rfl ?_
      cases h
      exact aw_iret rfl (by decide +kernel)
  · rw [if_pos c1] at h
    refine aw_seq [(.iconst (-1), 1, (axI (-1)))] (pc' := 8) (L' := [some (aR 21 j (SV + j)), some (aI v1), some (aI v2), some (aI v3)]) (stk' := [aI (-1)]) (σ' := σ2) (g := []) (by decide +kernel) rfl rfl ?_
    cases h
    exact aw_iret rfl (by decide +kernel)
def f_J0_indexOf_7cf53_36 (j : Nat)  (s0 : Int32) (σ : Sg) : Option (Int32 × Sg) :=
  some (s0, σ)
set_option maxRecDepth 100000 in
set_option maxHeartbeats 4000000 in
theorem ok_J0_indexOf_7cf53_36 {κ : Kd} {j : Nat}   : ∀ (s0 : Int32) (σ : Sg) (q : (Int32 × Sg)), f_J0_indexOf_7cf53_36 j s0 σ = some q → AW κ pJ0_indexOf_7cf53 3 (some (aI q.1), q.2) 36 [none, none, none] [aI s0] σ := by
  intro s0 σ q h
  unfold f_J0_indexOf_7cf53_36 at h
  cases h
  exact aw_iret rfl (by decide +kernel)
def f_J0_indexOf_7cf53 (j : Nat) (v1 : Int32) (v2 : Int32) (σ : Sg) : Option (Int32 × Sg) :=
  bnd (f_J0_isLatin1_aae02 j σ) fun r3 σ2 =>
  if r3 = 0 then (
    bnd (f_J0_length_8abf5 j σ2) fun r6 σ5 =>
    none
  ) else (
    bnd (f_J0_length_8abf5 j σ2) fun r9 σ8 =>
    bnd (f_J1_indexOf_4cfef j v1 v2 r9 σ8) fun r12 σ11 =>
    f_J0_indexOf_7cf53_36 j r12 σ11
  )
set_option maxRecDepth 100000 in
set_option maxHeartbeats 4000000 in
theorem ok_J0_indexOf_7cf53 {κ : Kd} {j : Nat} {v1 : Int32} {v2 : Int32} {σ : Sg} {q : (Int32 × Sg)} (h : f_J0_indexOf_7cf53 j v1 v2 σ = some q) : AMet κ pJ0_indexOf_7cf53 3 [aR 20 j (SB + j), aI v1, aI v2] σ (some (aI q.1), q.2) := by
  unfold f_J0_indexOf_7cf53 at h
  refine amet_of okp_J0_indexOf_7cf53 [(false, aR 20 j (SB + j)), (false, aI v1), (false, aI v2)] (List.forall_mem_cons.mpr ⟨rfl, List.forall_mem_cons.mpr ⟨rfl, List.forall_mem_cons.mpr ⟨rfl, (fun _ hn => absurd hn List.not_mem_nil)⟩⟩⟩) 0 rfl ?_
  show AW κ pJ0_indexOf_7cf53 3 (some (aI q.1), q.2) 0 [some (aR 20 j (SB + j)), some (aI v1), some (aI v2)] [] σ
  refine aw_seq [(.aload_n 0, 1, ax0)] (pc' := 1) (L' := [some (aR 20 j (SB + j)), some (aI v1), some (aI v2)]) (stk' := [aR 20 j (SB + j)]) (σ' := σ) (g := []) (by decide +kernel) rfl rfl ?_
  obtain ⟨r3, σ2, h1, h⟩ := bnd_some h
  refine aw_cVS (P' := pJ0_isLatin1_aae02) (idx := 492) (d' := 1) (n := j) (k := (SB + j)) [] [] (ov := (some (aI r3))) (stk2 := [aI r3]) okp_J0_isLatin1_aae02 (by decide +kernel) ml_RJ0_492 vok_J0_isLatin1_aae02 rfl nar_J0_isLatin1_aae02 (by decide) rfl (Nat.le_of_ble_eq_true rfl) (ok_J0_isLatin1_aae02 h1) rfl ?_
  refine aw_if_eq (off := 19) (tgt := 23) (by decide +kernel) (by decide) (fun c1 => ?_) (fun c1 => ?_)
  · rw [if_pos c1] at h
    refine aw_seq [(.aload_n 0, 1, ax0)] (pc' := 24) (L' := [some (aR 20 j (SB + j)), some (aI v1), some (aI v2)]) (stk' := [aR 20 j (SB + j)]) (σ' := σ2) (g := []) (by decide +kernel) rfl rfl ?_
    refine aw_strValue (idx := 9) (wsm_8 (i := 220) rfl rfl) (by decide +kernel) ?_
    refine aw_seq [(.iload_n 1, 1, ax0), (.iload_n 2, 1, ax0), (.aload_n 0, 1, ax0)] (pc' := 30) (L' := [some (aR 20 j (SB + j)), some (aI v1), some (aI v2)]) (stk' := [aR 20 j (SB + j), aI v2, aI v1, aR 21 j (SV + j)]) (σ' := σ2) (g := []) (by decide +kernel) rfl rfl ?_
    obtain ⟨r6, σ5, h4, h⟩ := bnd_some h
    refine aw_cVS (P' := pJ0_length_8abf5) (idx := 505) (d' := 2) (n := j) (k := (SB + j)) [] [aI v2, aI v1, aR 21 j (SV + j)] (ov := (some (aI r6))) (stk2 := [aI r6, aI v2, aI v1, aR 21 j (SV + j)]) okp_J0_length_8abf5 (by decide +kernel) ml_RJ0_505 vok_J0_length_8abf5 rfl nar_J0_length_8abf5 (by decide) rfl (Nat.le_of_ble_eq_true rfl) (ok_J0_length_8abf5 h4) rfl ?_
    cases h
  · rw [if_neg c1] at h
    refine aw_seq [(.aload_n 0, 1, ax0)] (pc' := 8) (L' := [some (aR 20 j (SB + j)), some (aI v1), some (aI v2)]) (stk' := [aR 20 j (SB + j)]) (σ' := σ2) (g := []) (by decide +kernel) rfl rfl ?_
    refine aw_strValue (idx := 9) (wsm_8 (i := 220) rfl rfl) (by decide +kernel) ?_
    refine aw_seq [(.iload_n 1, 1, ax0), (.iload_n 2, 1, ax0), (.aload_n 0, 1, ax0)] (pc' := 14) (L' := [some (aR 20 j (SB + j)), some (aI v1), some (aI v2)]) (stk' := [aR 20 j (SB + j), aI v2, aI v1, aR 21 j (SV + j)]) (σ' := σ2) (g := []) (by decide +kernel) rfl rfl ?_
    obtain ⟨r9, σ8, h7, h⟩ := bnd_some h
    refine aw_cVS (P' := pJ0_length_8abf5) (idx := 505) (d' := 2) (n := j) (k := (SB + j)) [] [aI v2, aI v1, aR 21 j (SV + j)] (ov := (some (aI r9))) (stk2 := [aI r9, aI v2, aI v1, aR 21 j (SV + j)]) okp_J0_length_8abf5 (by decide +kernel) ml_RJ0_505 vok_J0_length_8abf5 rfl nar_J0_length_8abf5 (by decide) rfl (Nat.le_of_ble_eq_true rfl) (ok_J0_length_8abf5 h7) rfl ?_
    obtain ⟨r12, σ11, h10, h⟩ := bnd_some h
    refine aw_cS (P' := pJ1_indexOf_4cfef) (idx := 637) (d' := 2) [aR 21 j (SV + j), aI v1, aI v2, aI r9] [] (ov := (some (aI r12))) (stk2 := [aI r12]) okp_J1_indexOf_4cfef (by decide +kernel) ml_RJ0_637 tok_J1_indexOf_4cfef nar_J1_indexOf_4cfef (by decide) rfl (Nat.le_of_ble_eq_true rfl) (ok_J1_indexOf_4cfef h10) rfl ?_
    refine aw_goto (off := 16) (tgt := 36) (by decide +kernel) (by decide) ?_
    refine aw_forget (L' := [none, none, none]) (lsub_n (lsub_n (lsub_n (lsub_0)))) ?_
    exact ok_J0_indexOf_7cf53_36 r12 σ11 _ h
def f_J0_indexOf_0f7a4 (j : Nat) (v1 : Int32) (σ : Sg) : Option (Int32 × Sg) :=
  bnd (f_J0_indexOf_7cf53 j v1 0 σ) fun r3 σ2 =>
  some (r3, σ2)
set_option maxRecDepth 100000 in
set_option maxHeartbeats 4000000 in
theorem ok_J0_indexOf_0f7a4 {κ : Kd} {j : Nat} {v1 : Int32} {σ : Sg} {q : (Int32 × Sg)} (h : f_J0_indexOf_0f7a4 j v1 σ = some q) : AMet κ pJ0_indexOf_0f7a4 4 [aR 20 j (SB + j), aI v1] σ (some (aI q.1), q.2) := by
  unfold f_J0_indexOf_0f7a4 at h
  refine amet_of okp_J0_indexOf_0f7a4 [(false, aR 20 j (SB + j)), (false, aI v1)] (List.forall_mem_cons.mpr ⟨rfl, List.forall_mem_cons.mpr ⟨rfl, (fun _ hn => absurd hn List.not_mem_nil)⟩⟩) 0 rfl ?_
  show AW κ pJ0_indexOf_0f7a4 4 (some (aI q.1), q.2) 0 [some (aR 20 j (SB + j)), some (aI v1)] [] σ
  refine aw_seq [(.aload_n 0, 1, ax0), (.iload_n 1, 1, ax0), (.iconst 0, 1, (axI 0))] (pc' := 3) (L' := [some (aR 20 j (SB + j)), some (aI v1)]) (stk' := [aI 0, aI v1, aR 20 j (SB + j)]) (σ' := σ) (g := []) (by decide +kernel) rfl rfl ?_
  obtain ⟨r3, σ2, h1, h⟩ := bnd_some h
  refine aw_cVS (P' := pJ0_indexOf_7cf53) (idx := 633) (d' := 3) (n := j) (k := (SB + j)) [aI v1, aI 0] [] (ov := (some (aI r3))) (stk2 := [aI r3]) okp_J0_indexOf_7cf53 (by decide +kernel) ml_RJ0_633 vok_J0_indexOf_7cf53 rfl nar_J0_indexOf_7cf53 (by decide) rfl (Nat.le_of_ble_eq_true rfl) (ok_J0_indexOf_7cf53 h1) rfl ?_
  cases h
  exact aw_iret rfl (by decide +kernel)
def f_X7_signOf_31   (s0 : Int32) (σ : Sg) : Option (Int32 × Sg) :=
  some (s0, σ)
set_option maxRecDepth 100000 in
set_option maxHeartbeats 4000000 in
theorem ok_X7_signOf_31 {κ : Kd}    : ∀ (s0 : Int32) (σ : Sg) (q : (Int32 × Sg)), f_X7_signOf_31 s0 σ = some q → AW κ pX7_signOf 5 (some (aI q.1), q.2) 31 [none, none] [aI s0] σ := by
  intro s0 σ q h
  unfold f_X7_signOf_31 at h
  cases h
  exact aw_iret rfl (by decide +kernel)
def f_X7_signOf_17   (s0 : Int32) (σ : Sg) : Option (Int32 × Sg) :=
  if 0 ≤ s0 then (
    f_X7_signOf_31 (30 + s0) σ
  ) else (
    f_X7_signOf_31 44 σ
  )
set_option maxRecDepth 100000 in
set_option maxHeartbeats 4000000 in
theorem ok_X7_signOf_17 {κ : Kd}    : ∀ (s0 : Int32) (σ : Sg) (q : (Int32 × Sg)), f_X7_signOf_17 s0 σ = some q → AW κ pX7_signOf 5 (some (aI q.1), q.2) 17 [none, none] [aI s0] σ := by
  intro s0 σ q h
  unfold f_X7_signOf_17 at h
  refine aw_seq [(.istore_n 1, 1, ax0), (.iload_n 1, 1, ax0)] (pc' := 19) (L' := [none, some (aI s0)]) (stk' := [aI s0]) (σ' := σ) (g := []) (by decide +kernel) rfl rfl ?_
  refine aw_if_ge (off := 8) (tgt := 27) (by decide +kernel) (by decide) (fun c1 => ?_) (fun c1 => ?_)
  · rw [if_pos c1] at h
    refine aw_seq [(.bipush 30, 2, (axI 30)), (.iload_n 1, 1, ax0), (.iadd, 1, ax0)] (pc' := 31) (L' := [none, some (aI s0)]) (stk' := [aI (30 + s0)]) (σ' := σ) (g := []) (by decide +kernel) rfl rfl ?_
    refine aw_forget (L' := [none, none]) (lsub_n (lsub_n (lsub_0))) ?_
    exact ok_X7_signOf_31 (30 + s0) σ _ h
  · rw [if_neg c1] at h
    refine aw_seq [(.bipush 44, 2, (axI 44))] (pc' := 24) (L' := [none, some (aI s0)]) (stk' := [aI 44]) (σ' := σ) (g := []) (by decide +kernel) rfl rfl ?_
    refine aw_goto (off := 7) (tgt := 31) (by decide +kernel) (by decide) ?_
    refine aw_forget (L' := [none, none]) (lsub_n (lsub_n (lsub_0))) ?_
    exact ok_X7_signOf_31 44 σ _ h
def f_X7_signOf (v0 : Int32) (σ : Sg) : Option (Int32 × Sg) :=
  if v0 = 32 then (
    f_X7_signOf_17 (-1) σ
  ) else (
    bnd (f_J0_indexOf_0f7a4 5 (i2c v0) σ) fun r3 σ2 =>
    f_X7_signOf_17 r3 σ2
  )
set_option maxRecDepth 100000 in
set_option maxHeartbeats 4000000 in
theorem ok_X7_signOf {κ : Kd} {v0 : Int32} {σ : Sg} {q : (Int32 × Sg)} (h : f_X7_signOf v0 σ = some q) : AMet κ pX7_signOf 5 [aI v0] σ (some (aI q.1), q.2) := by
  unfold f_X7_signOf at h
  refine amet_of okp_X7_signOf [(false, aI v0)] (List.forall_mem_cons.mpr ⟨rfl, (fun _ hn => absurd hn List.not_mem_nil)⟩) 1 rfl ?_
  show AW κ pX7_signOf 5 (some (aI q.1), q.2) 0 [some (aI v0), none] [] σ
  refine aw_seq [(.iload_n 0, 1, ax0), (.bipush 32, 2, (axI 32))] (pc' := 3) (L' := [some (aI v0), none]) (stk' := [aI 32, aI v0]) (σ' := σ) (g := []) (by decide +kernel) rfl rfl ?_
  refine aw_icmp_ne (off := 7) (tgt := 10) (by decide +kernel) (by decide) (fun c1 => ?_) (fun c1 => ?_)
  · rw [if_neg c1] at h
    refine aw_ldcS 5 (idx := 57) (by decide) rfl rfl (by decide +kernel) ?_
    refine aw_seq [(.iload_n 0, 1, ax0), (.i2c, 1, ax0)] (pc' := 14) (L' := [some (aI v0), none]) (stk' := [aI (i2c v0), aR 20 5 (SB + 5)]) (σ' := σ) (g := []) (by decide +kernel) rfl rfl ?_
    obtain ⟨r3, σ2, h1, h⟩ := bnd_some h
    refine aw_cVS (P' := pJ0_indexOf_0f7a4) (idx := 59) (d' := 4) (n := 5) (k := (SB + 5)) [aI (i2c v0)] [] (ov := (some (aI r3))) (stk2 := [aI r3]) okp_J0_indexOf_0f7a4 (by decide +kernel) ml_RX7_59 vok_J0_indexOf_0f7a4 rfl nar_J0_indexOf_0f7a4 (by decide) rfl (Nat.le_of_ble_eq_true rfl) (ok_J0_indexOf_0f7a4 h1) rfl ?_
    refine aw_forget (L' := [none, none]) (lsub_n (lsub_n (lsub_0))) ?_
    exact ok_X7_signOf_17 r3 σ2 _ h
  · rw [if_pos c1] at h
    refine aw_seq [(.iconst (-1), 1, (axI (-1)))] (pc' := 7) (L' := [some (aI v0), none]) (stk' := [aI (-1)]) (σ' := σ) (g := []) (by decide +kernel) rfl rfl ?_
    refine aw_goto (off := 10) (tgt := 17) (by decide +kernel) (by decide) ?_
    refine aw_forget (L' := [none, none]) (lsub_n (lsub_n (lsub_0))) ?_
    exact ok_X7_signOf_17 (-1) σ _ h
def f_J3_checkIndex_8e157_9   (v0 : Int32) (v1 : Int32) (σ : Sg) : Option (Int32 × Sg) :=
  none
set_option maxRecDepth 100000 in
set_option maxHeartbeats 4000000 in
theorem ok_J3_checkIndex_8e157_9 {κ : Kd}    : ∀ (v0 : Int32) (v1 : Int32) (σ : Sg) (q : (Int32 × Sg)), f_J3_checkIndex_8e157_9 v0 v1 σ = some q → AW κ pJ3_checkIndex_8e157 2 (some (aI q.1), q.2) 9 [some (aI v0), some (aI v1), some (aR 22 0 SF)] [] σ := by
  intro v0 v1 σ q h
  unfold f_J3_checkIndex_8e157_9 at h
  cases h
def f_J3_checkIndex_8e157 (v0 : Int32) (v1 : Int32) (σ : Sg) : Option (Int32 × Sg) :=
  if v0 < 0 then (
    f_J3_checkIndex_8e157_9 v0 v1 σ
  ) else (
    if v0 < v1 then (
      some (v0, σ)
    ) else (
      f_J3_checkIndex_8e157_9 v0 v1 σ
    )
  )
set_option maxRecDepth 100000 in
set_option maxHeartbeats 4000000 in
theorem ok_J3_checkIndex_8e157 {κ : Kd} {v0 : Int32} {v1 : Int32} {σ : Sg} {q : (Int32 × Sg)} (h : f_J3_checkIndex_8e157 v0 v1 σ = some q) : AMet κ pJ3_checkIndex_8e157 2 [aI v0, aI v1, aR 22 0 SF] σ (some (aI q.1), q.2) := by
  unfold f_J3_checkIndex_8e157 at h
  refine amet_of okp_J3_checkIndex_8e157 [(false, aI v0), (false, aI v1), (false, aR 22 0 SF)] (List.forall_mem_cons.mpr ⟨rfl, List.forall_mem_cons.mpr ⟨rfl, List.forall_mem_cons.mpr ⟨rfl, (fun _ hn => absurd hn List.not_mem_nil)⟩⟩⟩) 0 rfl ?_
  show AW κ pJ3_checkIndex_8e157 2 (some (aI q.1), q.2) 0 [some (aI v0), some (aI v1), some (aR 22 0 SF)] [] σ
  refine aw_seq [(.iload_n 0, 1, ax0)] (pc' := 1) (L' := [some (aI v0), some (aI v1), some (aR 22 0 SF)]) (stk' := [aI v0]) (σ' := σ) (g := []) (by decide +kernel) rfl rfl ?_
  refine aw_if_lt (off := 8) (tgt := 9) (by decide +kernel) (by decide) (fun c1 => ?_) (fun c1 => ?_)
  · rw [if_pos c1] at h
    refine aw_forget (L' := [some (aI v0), some (aI v1), some (aR 22 0 SF)]) (lsub_s (lsub_s (lsub_s (lsub_0)))) ?_
    exact ok_J3_checkIndex_8e157_9 v0 v1 σ _ h
  · rw [if_neg c1] at h
    refine aw_seq [(.iload_n 0, 1, ax0), (.iload_n 1, 1, ax0)] (pc' := 6) (L' := [some (aI v0), some (aI v1), some (aR 22 0 SF)]) (stk' := [aI v1, aI v0]) (σ' := σ) (g := []) (by decide +kernel) rfl rfl ?_
    refine aw_icmp_lt (off := 10) (tgt := 16) (by decide +kernel) (by decide) (fun c1 => ?_) (fun c1 => ?_)
    · rw [if_pos c1] at h
      refine aw_seq [(.iload_n 0, 1, ax0)] (pc' := 17) (L' := [some (aI v0), some (aI v1), some (aR 22 0 SF)]) (stk' := [aI v0]) (σ' := σ) (g := []) (by decide +kernel) rfl rfl ?_
      cases h
      exact aw_iret rfl (by decide +kernel)
    · rw [if_neg c1] at h
      refine aw_forget (L' := [some (aI v0), some (aI v1), some (aR 22 0 SF)]) (lsub_s (lsub_s (lsub_s (lsub_0)))) ?_
      exact ok_J3_checkIndex_8e157_9 v0 v1 σ _ h
set_option maxRecDepth 100000 in
set_option maxHeartbeats 4000000 in
theorem ok_J3n_checkIndex_8e157_9 {κ : Kd}    : ∀ (v0 : Int32) (v1 : Int32) (σ : Sg) (q : (Int32 × Sg)), f_J3_checkIndex_8e157_9 v0 v1 σ = some q → AW κ pJ3_checkIndex_8e157 2 (some (aI q.1), q.2) 9 [some (aI v0), some (aI v1), some (aN)] [] σ := by
  intro v0 v1 σ q h
  unfold f_J3_checkIndex_8e157_9 at h
  cases h
set_option maxRecDepth 100000 in
set_option maxHeartbeats 4000000 in
theorem ok_J3n_checkIndex_8e157 {κ : Kd} {v0 : Int32} {v1 : Int32} {σ : Sg} {q : (Int32 × Sg)} (h : f_J3_checkIndex_8e157 v0 v1 σ = some q) : AMet κ pJ3_checkIndex_8e157 2 [aI v0, aI v1, aN] σ (some (aI q.1), q.2) := by
  unfold f_J3_checkIndex_8e157 at h
  refine amet_of okp_J3_checkIndex_8e157 [(false, aI v0), (false, aI v1), (false, aN)] (List.forall_mem_cons.mpr ⟨rfl, List.forall_mem_cons.mpr ⟨rfl, List.forall_mem_cons.mpr ⟨rfl, (fun _ hn => absurd hn List.not_mem_nil)⟩⟩⟩) 0 rfl ?_
  show AW κ pJ3_checkIndex_8e157 2 (some (aI q.1), q.2) 0 [some (aI v0), some (aI v1), some (aN)] [] σ
  refine aw_seq [(.iload_n 0, 1, ax0)] (pc' := 1) (L' := [some (aI v0), some (aI v1), some (aN)]) (stk' := [aI v0]) (σ' := σ) (g := []) (by decide +kernel) rfl rfl ?_
  refine aw_if_lt (off := 8) (tgt := 9) (by decide +kernel) (by decide) (fun c1 => ?_) (fun c1 => ?_)
  · rw [if_pos c1] at h
    refine aw_forget (L' := [some (aI v0), some (aI v1), some (aN)]) (lsub_s (lsub_s (lsub_s (lsub_0)))) ?_
    exact ok_J3n_checkIndex_8e157_9 v0 v1 σ _ h
  · rw [if_neg c1] at h
    refine aw_seq [(.iload_n 0, 1, ax0), (.iload_n 1, 1, ax0)] (pc' := 6) (L' := [some (aI v0), some (aI v1), some (aN)]) (stk' := [aI v1, aI v0]) (σ' := σ) (g := []) (by decide +kernel) rfl rfl ?_
    refine aw_icmp_lt (off := 10) (tgt := 16) (by decide +kernel) (by decide) (fun c1 => ?_) (fun c1 => ?_)
    · rw [if_pos c1] at h
      refine aw_seq [(.iload_n 0, 1, ax0)] (pc' := 17) (L' := [some (aI v0), some (aI v1), some (aN)]) (stk' := [aI v0]) (σ' := σ) (g := []) (by decide +kernel) rfl rfl ?_
      cases h
      exact aw_iret rfl (by decide +kernel)
    · rw [if_neg c1] at h
      refine aw_forget (L' := [some (aI v0), some (aI v1), some (aN)]) (lsub_s (lsub_s (lsub_s (lsub_0)))) ?_
      exact ok_J3n_checkIndex_8e157_9 v0 v1 σ _ h
def f_J0_checkIndex_df160 (v0 : Int32) (v1 : Int32) (σ : Sg) : Option Sg :=
  bnd (f_J3_checkIndex_8e157 v0 v1 σ) fun r3 σ2 =>
  some σ2
set_option maxRecDepth 100000 in
set_option maxHeartbeats 4000000 in
theorem ok_J0_checkIndex_df160 {κ : Kd} {v0 : Int32} {v1 : Int32} {σ : Sg} {q : Sg} (h : f_J0_checkIndex_df160 v0 v1 σ = some q) : AMet κ pJ0_checkIndex_df160 3 [aI v0, aI v1] σ (none, q) := by
  unfold f_J0_checkIndex_df160 at h
  refine amet_of okp_J0_checkIndex_df160 [(false, aI v0), (false, aI v1)] (List.forall_mem_cons.mpr ⟨rfl, List.forall_mem_cons.mpr ⟨rfl, (fun _ hn => absurd hn List.not_mem_nil)⟩⟩) 0 rfl ?_
  show AW κ pJ0_checkIndex_df160 3 (none, q) 0 [some (aI v0), some (aI v1)] [] σ
  refine aw_seq [(.iload_n 0, 1, ax0), (.iload_n 1, 1, ax0)] (pc' := 2) (L' := [some (aI v0), some (aI v1)]) (stk' := [aI v1, aI v0]) (σ' := σ) (g := []) (by decide +kernel) rfl rfl ?_
  refine aw_sioobe (idx := 1053) (wsm_2 (i := 233) rfl rfl) (by decide +kernel) ?_ ?_
  · obtain ⟨r3, σ2, h1, h⟩ := bnd_some h
    refine aw_cS (P' := pJ3_checkIndex_8e157) (idx := 1059) (d' := 2) [aI v0, aI v1, aR 22 0 SF] [] (ov := (some (aI r3))) (stk2 := [aI r3]) okp_J3_checkIndex_8e157 (by decide +kernel) ml_RJ0_1059 tok_J3_checkIndex_8e157 nar_J3_checkIndex_8e157 (by decide) rfl (Nat.le_of_ble_eq_true rfl) (ok_J3_checkIndex_8e157 h1) rfl ?_
    refine aw_seq [(.pop, 1, ax0)] (pc' := 9) (L' := [some (aI v0), some (aI v1)]) (stk' := []) (σ' := σ2) (g := []) (by decide +kernel) rfl rfl ?_
    cases h
    exact aw_vret rfl (by decide +kernel)
  · obtain ⟨r3, σ2, h1, h⟩ := bnd_some h
    refine aw_cS (P' := pJ3_checkIndex_8e157) (idx := 1059) (d' := 2) [aI v0, aI v1, aN] [] (ov := (some (aI r3))) (stk2 := [aI r3]) okp_J3_checkIndex_8e157 (by decide +kernel) ml_RJ0_1059 tok_J3_checkIndex_8e157 nar_J3_checkIndex_8e157 (by decide) rfl (Nat.le_of_ble_eq_true rfl) (ok_J3n_checkIndex_8e157 h1) rfl ?_
    refine aw_seq [(.pop, 1, ax0)] (pc' := 9) (L' := [some (aI v0), some (aI v1)]) (stk' := []) (σ' := σ2) (g := []) (by decide +kernel) rfl rfl ?_
    cases h
    exact aw_vret rfl (by decide +kernel)
def f_J1_charAt_3b067 (j : Nat) (v1 : Int32) (σ : Sg) : Option (Int32 × Sg) :=
  bndV (f_J0_checkIndex_df160 v1 (Int32.ofNat (lenS.getD j 0)) σ) fun σ2 =>
  grd (inb v1 (lenS.getD j 0)) <|
  grd (chz (i2c (((bytS.getD j []).getD (ix v1) 0) &&& 255))) <| some ((i2c (((bytS.getD j []).getD (ix v1) 0) &&& 255)), σ2)
set_option maxRecDepth 100000 in
set_option maxHeartbeats 4000000 in
theorem ok_J1_charAt_3b067 {κ : Kd} {j : Nat} {v1 : Int32} {σ : Sg} {q : (Int32 × Sg)} (h : f_J1_charAt_3b067 j v1 σ = some q) : AMet κ pJ1_charAt_3b067 4 [aR 21 j (SV + j), aI v1] σ (some (aI q.1), q.2) := by
  unfold f_J1_charAt_3b067 at h
  refine amet_of okp_J1_charAt_3b067 [(false, aR 21 j (SV + j)), (false, aI v1)] (List.forall_mem_cons.mpr ⟨rfl, List.forall_mem_cons.mpr ⟨rfl, (fun _ hn => absurd hn List.not_mem_nil)⟩⟩) 0 rfl ?_
  show AW κ pJ1_charAt_3b067 4 (some (aI q.1), q.2) 0 [some (aR 21 j (SV + j)), some (aI v1)] [] σ
  refine aw_seq [(.iload_n 1, 1, ax0), (.aload_n 0, 1, ax0)] (pc' := 2) (L' := [some (aR 21 j (SV + j)), some (aI v1)]) (stk' := [aR 21 j (SV + j), aI v1]) (σ' := σ) (g := []) (by decide +kernel) rfl rfl ?_
  refine aw_strLen (by decide +kernel) ?_
  obtain ⟨σ2, h1, h⟩ := bndV_some h
  refine aw_cS (P' := pJ0_checkIndex_df160) (idx := 9) (d' := 3) [aI v1, aI (Int32.ofNat (lenS.getD j 0))] [] (ov := none) (stk2 := []) okp_J0_checkIndex_df160 (by decide +kernel) ml_RJ1_9 tok_J0_checkIndex_df160 nar_J0_checkIndex_df160 (by decide) rfl (Nat.le_of_ble_eq_true rfl) (ok_J0_checkIndex_df160 h1) rfl ?_
  refine aw_seq [(.aload_n 0, 1, ax0), (.iload_n 1, 1, ax0)] (pc' := 8) (L' := [some (aR 21 j (SV + j)), some (aI v1)]) (stk' := [aI v1, aR 21 j (SV + j)]) (σ' := σ2) (g := []) (by decide +kernel) rfl rfl ?_
  obtain ⟨hg, h⟩ := grd_some h
  refine aw_strByte hg (by decide +kernel) ?_
  refine aw_seq [(.sipush 255, 3, (axI 255)), (.iand, 1, ax0), (.i2c, 1, ax0)] (pc' := 14) (L' := [some (aR 21 j (SV + j)), some (aI v1)]) (stk' := [aI (i2c (((bytS.getD j []).getD (ix v1) 0) &&& 255))]) (σ' := σ2) (g := []) (by decide +kernel) rfl rfl ?_
  obtain ⟨hg, h⟩ := grd_some h
  cases h
  exact aw_cret rfl (of_decide_eq_true hg) (by decide +kernel)
def f_J0_charAt_5068e (j : Nat) (v1 : Int32) (σ : Sg) : Option (Int32 × Sg) :=
  bnd (f_J0_isLatin1_aae02 j σ) fun r3 σ2 =>
  if r3 = 0 then (
    none
  ) else (
    bnd (f_J1_charAt_3b067 j v1 σ2) fun r6 σ5 =>
    grd (chz r6) <| some (r6, σ5)
  )
set_option maxRecDepth 100000 in
set_option maxHeartbeats 4000000 in
theorem ok_J0_charAt_5068e {κ : Kd} {j : Nat} {v1 : Int32} {σ : Sg} {q : (Int32 × Sg)} (h : f_J0_charAt_5068e j v1 σ = some q) : AMet κ pJ0_charAt_5068e 5 [aR 20 j (SB + j), aI v1] σ (some (aI q.1), q.2) := by
  unfold f_J0_charAt_5068e at h
  refine amet_of okp_J0_charAt_5068e [(false, aR 20 j (SB + j)), (false, aI v1)] (List.forall_mem_cons.mpr ⟨rfl, List.forall_mem_cons.mpr ⟨rfl, (fun _ hn => absurd hn List.not_mem_nil)⟩⟩) 0 rfl ?_
  show AW κ pJ0_charAt_5068e 5 (some (aI q.1), q.2) 0 [some (aR 20 j (SB + j)), some (aI v1)] [] σ
  refine aw_seq [(.aload_n 0, 1, ax0)] (pc' := 1) (L' := [some (aR 20 j (SB + j)), some (aI v1)]) (stk' := [aR 20 j (SB + j)]) (σ' := σ) (g := []) (by decide +kernel) rfl rfl ?_
  obtain ⟨r3, σ2, h1, h⟩ := bnd_some h
  refine aw_cVS (P' := pJ0_isLatin1_aae02) (idx := 492) (d' := 1) (n := j) (k := (SB + j)) [] [] (ov := (some (aI r3))) (stk2 := [aI r3]) okp_J0_isLatin1_aae02 (by decide +kernel) ml_RJ0_492 vok_J0_isLatin1_aae02 rfl nar_J0_isLatin1_aae02 (by decide) rfl (Nat.le_of_ble_eq_true rfl) (ok_J0_isLatin1_aae02 h1) rfl ?_
  refine aw_if_eq (off := 12) (tgt := 16) (by decide +kernel) (by decide) (fun c1 => ?_) (fun c1 => ?_)
  · rw [if_pos c1] at h
    refine aw_seq [(.aload_n 0, 1, ax0)] (pc' := 17) (L' := [some (aR 20 j (SB + j)), some (aI v1)]) (stk' := [aR 20 j (SB + j)]) (σ' := σ2) (g := []) (by decide +kernel) rfl rfl ?_
    refine aw_strValue (idx := 9) (wsm_8 (i := 220) rfl rfl) (by decide +kernel) ?_
    cases h
  · rw [if_neg c1] at h
    refine aw_seq [(.aload_n 0, 1, ax0)] (pc' := 8) (L' := [some (aR 20 j (SB + j)), some (aI v1)]) (stk' := [aR 20 j (SB + j)]) (σ' := σ2) (g := []) (by decide +kernel) rfl rfl ?_
    refine aw_strValue (idx := 9) (wsm_8 (i := 220) rfl rfl) (by decide +kernel) ?_
    refine aw_seq [(.iload_n 1, 1, ax0)] (pc' := 12) (L' := [some (aR 20 j (SB + j)), some (aI v1)]) (stk' := [aI v1, aR 21 j (SV + j)]) (σ' := σ2) (g := []) (by decide +kernel) rfl rfl ?_
    obtain ⟨r6, σ5, h4, h⟩ := bnd_some h
    refine aw_cS (P' := pJ1_charAt_3b067) (idx := 495) (d' := 4) [aR 21 j (SV + j), aI v1] [] (ov := (some (aI r6))) (stk2 := [aI r6]) okp_J1_charAt_3b067 (by decide +kernel) ml_RJ0_495 tok_J1_charAt_3b067 nar_J1_charAt_3b067 (by decide) rfl (Nat.le_of_ble_eq_true rfl) (ok_J1_charAt_3b067 h4) rfl ?_
    obtain ⟨hg, h⟩ := grd_some h
    cases h
    exact aw_cret rfl (of_decide_eq_true hg) (by decide +kernel)
def f_X7_isWord_24 (j : Nat)   (σ : Sg) : Option (Int32 × Sg) :=
  some (0, σ)
set_option maxRecDepth 100000 in
set_option maxHeartbeats 4000000 in
theorem ok_X7_isWord_24 {κ : Kd} {j : Nat}   : ∀  (σ : Sg) (q : (Int32 × Sg)), f_X7_isWord_24 j  σ = some q → AW κ pX7_isWord 6 (some (aI q.1), q.2) 24 [none, none, none, none, none, none, none] [] σ := by
  intro  σ q h
  unfold f_X7_isWord_24 at h
  refine aw_seq [(.iconst 0, 1, (axI 0))] (pc' := 25) (L' := [none, none, none, none, none, none, none]) (stk' := [aI 0]) (σ' := σ) (g := []) (by decide +kernel) rfl rfl ?_
  cases h
  exact aw_zret rfl bz_0 (by decide +kernel)
def f_X7_isWord_65 (j : Nat) (rec_29 : Int32 → Int32 → Int32 → Int32 → Sg → Option (Int32 × Sg)) (v1 : Int32) (v3 : Int32) (v4 : Int32) (v5 : Int32) (s0 : Int32) (σ : Sg) : Option (Int32 × Sg) :=
  bnd (f_J0_charAt_5068e j (v1 + v5) σ) fun r3 σ2 =>
  if r3 = s0 then (
    rec_29 v1 v3 v4 (v5 + 1) σ2
  ) else (
    some (0, σ2)
  )
set_option maxRecDepth 100000 in
set_option maxHeartbeats 4000000 in
theorem ok_X7_isWord_65 {κ : Kd} {j : Nat}  {rec_29 : Int32 → Int32 → Int32 → Int32 → Sg → Option (Int32 × Sg)} (hrec_29 : ∀ (v1 : Int32) (v3 : Int32) (v4 : Int32) (v5 : Int32) (σ : Sg) (q : (Int32 × Sg)), rec_29 v1 v3 v4 v5 σ = some q → AW κ pX7_isWord 6 (some (aI q.1), q.2) 29 [some (aR 20 j (SB + j)), some (aI v1), some (aR 13 300 70), some (aI v3), some (aI v4), some (aI v5), none] [] σ) : ∀ (v1 : Int32) (v3 : Int32) (v4 : Int32) (v5 : Int32) (s0 : Int32) (σ : Sg) (q : (Int32 × Sg)), f_X7_isWord_65 j rec_29 v1 v3 v4 v5 s0 σ = some q → AW κ pX7_isWord 6 (some (aI q.1), q.2) 65 [some (aR 20 j (SB + j)), some (aI v1), some (aR 13 300 70), some (aI v3), some (aI v4), some (aI v5), none] [aI s0] σ := by
  intro v1 v3 v4 v5 s0 σ q h
  unfold f_X7_isWord_65 at h
  refine aw_seq [(.istore 6, 2, ax0), (.aload_n 0, 1, ax0), (.iload_n 1, 1, ax0), (.iload 5, 2, ax0), (.iadd, 1, ax0)] (pc' := 72) (L' := [some (aR 20 j (SB + j)), some (aI v1), some (aR 13 300 70), some (aI v3), some (aI v4), some (aI v5), some (aI s0)]) (stk' := [aI (v1 + v5), aR 20 j (SB + j)]) (σ' := σ) (g := []) (by decide +kernel) rfl rfl ?_
  obtain ⟨r3, σ2, h1, h⟩ := bnd_some h
  refine aw_cVS (P' := pJ0_charAt_5068e) (idx := 86) (d' := 5) (n := j) (k := (SB + j)) [aI (v1 + v5)] [] (ov := (some (aI r3))) (stk2 := [aI r3]) okp_J0_charAt_5068e (by decide +kernel) ml_RX7_86 vok_J0_charAt_5068e rfl nar_J0_charAt_5068e (by decide) rfl (Nat.le_of_ble_eq_true rfl) (ok_J0_charAt_5068e h1) rfl ?_
  refine aw_seq [(.iload 6, 2, ax0)] (pc' := 77) (L' := [some (aR 20 j (SB + j)), some (aI v1), some (aR 13 300 70), some (aI v3), some (aI v4), some (aI v5), some (aI s0)]) (stk' := [aI s0, aI r3]) (σ' := σ2) (g := []) (by decide +kernel) rfl rfl ?_
  refine aw_icmp_eq (off := 5) (tgt := 82) (by decide +kernel) (by decide) (fun c1 => ?_) (fun c1 => ?_)
  · rw [if_pos c1] at h
    refine aw_seq [(.iinc 5 1, 3, (axI 1))] (pc' := 85) (L' := [some (aR 20 j (SB + j)), some (aI v1), some (aR 13 300 70), some (aI v3), some (aI v4), some (aI (v5 + 1)), some (aI s0)]) (stk' := []) (σ' := σ2) (g := []) (by decide +kernel) rfl rfl ?_
    refine aw_goto (off := (-56)) (tgt := 29) (by decide +kernel) (by decide) ?_
    refine aw_forget (L' := [some (aR 20 j (SB + j)), some (aI v1), some (aR 13 300 70), some (aI v3), some (aI v4), some (aI (v5 + 1)), none]) (lsub_s (lsub_s (lsub_s (lsub_s (lsub_s (lsub_s (lsub_n (lsub_0)))))))) ?_
    exact hrec_29 v1 v3 v4 (v5 + 1) σ2 _ h
  · rw [if_neg c1] at h
    refine aw_seq [(.iconst 0, 1, (axI 0))] (pc' := 81) (L' := [some (aR 20 j (SB + j)), some (aI v1), some (aR 13 300 70), some (aI v3), some (aI v4), some (aI v5), some (aI s0)]) (stk' := [aI 0]) (σ' := σ2) (g := []) (by decide +kernel) rfl rfl ?_
    cases h
    exact aw_zret rfl bz_0 (by decide +kernel)
def f_X7_isWord_63 (j : Nat) (rec_29 : Int32 → Int32 → Int32 → Int32 → Sg → Option (Int32 × Sg)) (v1 : Int32) (v3 : Int32) (v4 : Int32) (v5 : Int32) (σ : Sg) : Option (Int32 × Sg) :=
  f_X7_isWord_65 j rec_29 v1 v3 v4 v5 32 σ
set_option maxRecDepth 100000 in
set_option maxHeartbeats 4000000 in
theorem ok_X7_isWord_63 {κ : Kd} {j : Nat}  {rec_29 : Int32 → Int32 → Int32 → Int32 → Sg → Option (Int32 × Sg)} (hrec_29 : ∀ (v1 : Int32) (v3 : Int32) (v4 : Int32) (v5 : Int32) (σ : Sg) (q : (Int32 × Sg)), rec_29 v1 v3 v4 v5 σ = some q → AW κ pX7_isWord 6 (some (aI q.1), q.2) 29 [some (aR 20 j (SB + j)), some (aI v1), some (aR 13 300 70), some (aI v3), some (aI v4), some (aI v5), none] [] σ) : ∀ (v1 : Int32) (v3 : Int32) (v4 : Int32) (v5 : Int32) (σ : Sg) (q : (Int32 × Sg)), f_X7_isWord_63 j rec_29 v1 v3 v4 v5 σ = some q → AW κ pX7_isWord 6 (some (aI q.1), q.2) 63 [some (aR 20 j (SB + j)), some (aI v1), some (aR 13 300 70), some (aI v3), some (aI v4), some (aI v5), none] [] σ := by
  intro v1 v3 v4 v5 σ q h
  unfold f_X7_isWord_63 at h
  refine aw_seq [(.bipush 32, 2, (axI 32))] (pc' := 65) (L' := [some (aR 20 j (SB + j)), some (aI v1), some (aR 13 300 70), some (aI v3), some (aI v4), some (aI v5), none]) (stk' := [aI 32]) (σ' := σ) (g := []) (by decide +kernel) rfl rfl ?_
  refine aw_forget (L' := [some (aR 20 j (SB + j)), some (aI v1), some (aR 13 300 70), some (aI v3), some (aI v4), some (aI v5), none]) (lsub_s (lsub_s (lsub_s (lsub_s (lsub_s (lsub_s (lsub_n (lsub_0)))))))) ?_
  exact ok_X7_isWord_65 hrec_29 v1 v3 v4 v5 32 σ _ h
def f_X7_isWord_29 (j : Nat)  : Nat → Int32 → Int32 → Int32 → Int32 → Sg → Option (Int32 × Sg)
  | 0, _, _, _, _, _ => none
  | fu + 1, v1, v3, v4, v5, σ =>
    if 8 ≤ v5 then (
      some (1, σ)
    ) else (
      if v4 ≤ (v3 + v5) then (
        f_X7_isWord_63 j (f_X7_isWord_29 j fu) v1 v3 v4 v5 σ
      ) else (
        if 300 ≤ (v3 + v5) then (
          f_X7_isWord_63 j (f_X7_isWord_29 j fu) v1 v3 v4 v5 σ
        ) else (
          grd (inb (v3 + v5) 300 && true) <|
          f_X7_isWord_65 j (f_X7_isWord_29 j fu) v1 v3 v4 v5 (σ.1 70 (ix (v3 + v5))) σ
        )
      )
    )
set_option maxRecDepth 100000 in
set_option maxHeartbeats 4000000 in
theorem ok_X7_isWord_29 {κ : Kd} {j : Nat}   : ∀ (fu : Nat) (v1 : Int32) (v3 : Int32) (v4 : Int32) (v5 : Int32) (σ : Sg) (q : (Int32 × Sg)), f_X7_isWord_29 j fu v1 v3 v4 v5 σ = some q → AW κ pX7_isWord 6 (some (aI q.1), q.2) 29 [some (aR 20 j (SB + j)), some (aI v1), some (aR 13 300 70), some (aI v3), some (aI v4), some (aI v5), none] [] σ := by
  intro fu
  induction fu with
  | zero =>
    intro v1 v3 v4 v5 σ q h
    unfold f_X7_isWord_29 at h
    cases h
  | succ fu ih =>
    intro v1 v3 v4 v5 σ q h
    unfold f_X7_isWord_29 at h
    refine aw_seq [(.iload 5, 2, ax0), (.bipush 8, 2, (axI 8))] (pc' := 33) (L' := [some (aR 20 j (SB + j)), some (aI v1), some (aR 13 300 70), some (aI v3), some (aI v4), some (aI v5), none]) (stk' := [aI 8, aI v5]) (σ' := σ) (g := []) (by decide +kernel) rfl rfl ?_
    refine aw_icmp_ge (off := 55) (tgt := 88) (by decide +kernel) (by decide) (fun c1 => ?_) (fun c1 => ?_)
    · rw [if_pos c1] at h
      refine aw_seq [(.iconst 1, 1, (axI 1))] (pc' := 89) (L' := [some (aR 20 j (SB + j)), some (aI v1), some (aR 13 300 70), some (aI v3), some (aI v4), some (aI v5), none]) (stk' := [aI 1]) (σ' := σ) (g := []) (by decide +kernel) rfl rfl ?_
      cases h
      exact aw_zret rfl bz_1 (by decide +kernel)
    · rw [if_neg c1] at h
      refine aw_seq [(.iload_n 3, 1, ax0), (.iload 5, 2, ax0), (.iadd, 1, ax0), (.iload 4, 2, ax0)] (pc' := 42) (L' := [some (aR 20 j (SB + j)), some (aI v1), some (aR 13 300 70), some (aI v3), some (aI v4), some (aI v5), none]) (stk' := [aI v4, aI (v3 + v5)]) (σ' := σ) (g := []) (by decide +kernel) rfl rfl ?_
      refine aw_icmp_ge (off := 21) (tgt := 63) (by decide +kernel) (by decide) (fun c1 => ?_) (fun c1 => ?_)
      · rw [if_pos c1] at h
        refine aw_forget (L' := [some (aR 20 j (SB + j)), some (aI v1), some (aR 13 300 70), some (aI v3), some (aI v4), some (aI v5), none]) (lsub_s (lsub_s (lsub_s (lsub_s (lsub_s (lsub_s (lsub_n (lsub_0)))))))) ?_
        exact ok_X7_isWord_63 ih v1 v3 v4 v5 σ _ h
      · rw [if_neg c1] at h
        refine aw_seq [(.iload_n 3, 1, ax0), (.iload 5, 2, ax0), (.iadd, 1, ax0), (.aload_n 2, 1, ax0), (.arraylength, 1, ax0)] (pc' := 51) (L' := [some (aR 20 j (SB + j)), some (aI v1), some (aR 13 300 70), some (aI v3), some (aI v4), some (aI v5), none]) (stk' := [aI 300, aI (v3 + v5)]) (σ' := σ) (g := []) (by decide +kernel) rfl rfl ?_
        refine aw_icmp_ge (off := 12) (tgt := 63) (by decide +kernel) (by decide) (fun c1 => ?_) (fun c1 => ?_)
        · rw [if_pos c1] at h
          refine aw_forget (L' := [some (aR 20 j (SB + j)), some (aI v1), some (aR 13 300 70), some (aI v3), some (aI v4), some (aI v5), none]) (lsub_s (lsub_s (lsub_s (lsub_s (lsub_s (lsub_s (lsub_n (lsub_0)))))))) ?_
          exact ok_X7_isWord_63 ih v1 v3 v4 v5 σ _ h
        · rw [if_neg c1] at h
          obtain ⟨hg, h⟩ := grd_some h
          refine aw_seq [(.aload_n 2, 1, ax0), (.iload_n 3, 1, ax0), (.iload 5, 2, ax0), (.iadd, 1, ax0), (.iaload, 1, ax0)] (pc' := 60) (L' := [some (aR 20 j (SB + j)), some (aI v1), some (aR 13 300 70), some (aI v3), some (aI v4), some (aI v5), none]) (stk' := [aI (σ.1 70 (ix (v3 + v5)))]) (σ' := σ) (g := [inb (v3 + v5) 300]) (by decide +kernel) rfl hg ?_
          refine aw_goto (off := 5) (tgt := 65) (by decide +kernel) (by decide) ?_
          refine aw_forget (L' := [some (aR 20 j (SB + j)), some (aI v1), some (aR 13 300 70), some (aI v3), some (aI v4), some (aI v5), none]) (lsub_s (lsub_s (lsub_s (lsub_s (lsub_s (lsub_s (lsub_n (lsub_0)))))))) ?_
          exact ok_X7_isWord_65 ih v1 v3 v4 v5 (σ.1 70 (ix (v3 + v5))) σ _ h
def f_X7_isWord (j : Nat) (v1 : Int32) (v3 : Int32) (v4 : Int32) (σ : Sg) : Option (Int32 × Sg) :=
  if 8 ≤ (v4 - v3) then (
    f_X7_isWord_24 j σ
  ) else (
    if v1 < 0 then (
      f_X7_isWord_24 j σ
    ) else (
      bnd (f_J0_length_8abf5 j σ) fun r6 σ5 =>
      if v1 ≤ (r6 - 8) then (
        f_X7_isWord_29 j FU v1 v3 v4 0 σ5
      ) else (
        f_X7_isWord_24 j σ5
      )
    )
  )
set_option maxRecDepth 100000 in
set_option maxHeartbeats 4000000 in
theorem ok_X7_isWord {κ : Kd} {j : Nat} {v1 : Int32} {v3 : Int32} {v4 : Int32} {σ : Sg} {q : (Int32 × Sg)} (h : f_X7_isWord j v1 v3 v4 σ = some q) : AMet κ pX7_isWord 6 [aR 20 j (SB + j), aI v1, aR 13 300 70, aI v3, aI v4] σ (some (aI q.1), q.2) := by
  unfold f_X7_isWord at h
  refine amet_of okp_X7_isWord [(false, aR 20 j (SB + j)), (false, aI v1), (false, aR 13 300 70), (false, aI v3), (false, aI v4)] (List.forall_mem_cons.mpr ⟨rfl, List.forall_mem_cons.mpr ⟨rfl, List.forall_mem_cons.mpr ⟨rfl, List.forall_mem_cons.mpr ⟨rfl, List.forall_mem_cons.mpr ⟨rfl, (fun _ hn => absurd hn List.not_mem_nil)⟩⟩⟩⟩⟩) 2 rfl ?_
  show AW κ pX7_isWord 6 (some (aI q.1), q.2) 0 [some (aR 20 j (SB + j)), some (aI v1), some (aR 13 300 70), some (aI v3), some (aI v4), none, none] [] σ
  refine aw_seq [(.iload 4, 2, ax0), (.iload_n 3, 1, ax0), (.isub, 1, ax0), (.bipush 8, 2, (axI 8))] (pc' := 6) (L' := [some (aR 20 j (SB + j)), some (aI v1), some (aR 13 300 70), some (aI v3), some (aI v4), none, none]) (stk' := [aI 8, aI (v4 - v3)]) (σ' := σ) (g := []) (by decide +kernel) rfl rfl ?_
  refine aw_icmp_ge (off := 18) (tgt := 24) (by decide +kernel) (by decide) (fun c1 => ?_) (fun c1 => ?_)
  · rw [if_pos c1] at h
    refine aw_forget (L' := [none, none, none, none, none, none, none]) (lsub_n (lsub_n (lsub_n (lsub_n (lsub_n (lsub_n (lsub_n (lsub_0)))))))) ?_
    exact ok_X7_isWord_24 σ _ h
  · rw [if_neg c1] at h
    refine aw_seq [(.iload_n 1, 1, ax0)] (pc' := 10) (L' := [some (aR 20 j (SB + j)), some (aI v1), some (aR 13 300 70), some (aI v3), some (aI v4), none, none]) (stk' := [aI v1]) (σ' := σ) (g := []) (by decide +kernel) rfl rfl ?_
    refine aw_if_lt (off := 14) (tgt := 24) (by decide +kernel) (by decide) (fun c1 => ?_) (fun c1 => ?_)
    · rw [if_pos c1] at h
      refine aw_forget (L' := [none, none, none, none, none, none, none]) (lsub_n (lsub_n (lsub_n (lsub_n (lsub_n (lsub_n (lsub_n (lsub_0)))))))) ?_
      exact ok_X7_isWord_24 σ _ h
    · rw [if_neg c1] at h
      refine aw_seq [(.iload_n 1, 1, ax0), (.aload_n 0, 1, ax0)] (pc' := 15) (L' := [some (aR 20 j (SB + j)), some (aI v1), some (aR 13 300 70), some (aI v3), some (aI v4), none, none]) (stk' := [aR 20 j (SB + j), aI v1]) (σ' := σ) (g := []) (by decide +kernel) rfl rfl ?_
      obtain ⟨r6, σ5, h4, h⟩ := bnd_some h
      refine aw_cVS (P' := pJ0_length_8abf5) (idx := 78) (d' := 2) (n := j) (k := (SB + j)) [] [aI v1] (ov := (some (aI r6))) (stk2 := [aI r6, aI v1]) okp_J0_length_8abf5 (by decide +kernel) ml_RX7_78 vok_J0_length_8abf5 rfl nar_J0_length_8abf5 (by decide) rfl (Nat.le_of_ble_eq_true rfl) (ok_J0_length_8abf5 h4) rfl ?_
      refine aw_seq [(.bipush 8, 2, (axI 8)), (.isub, 1, ax0)] (pc' := 21) (L' := [some (aR 20 j (SB + j)), some (aI v1), some (aR 13 300 70), some (aI v3), some (aI v4), none, none]) (stk' := [aI (r6 - 8), aI v1]) (σ' := σ5) (g := []) (by decide +kernel) rfl rfl ?_
      refine aw_icmp_le (off := 5) (tgt := 26) (by decide +kernel) (by decide) (fun c1 => ?_) (fun c1 => ?_)
      · rw [if_pos c1] at h
        refine aw_seq [(.iconst 0, 1, (axI 0)), (.istore 5, 2, ax0)] (pc' := 29) (L' := [some (aR 20 j (SB + j)), some (aI v1), some (aR 13 300 70), some (aI v3), some (aI v4), some (aI 0), none]) (stk' := []) (σ' := σ5) (g := []) (by decide +kernel) rfl rfl ?_
        refine aw_forget (L' := [some (aR 20 j (SB + j)), some (aI v1), some (aR 13 300 70), some (aI v3), some (aI v4), some (aI 0), none]) (lsub_s (lsub_s (lsub_s (lsub_s (lsub_s (lsub_s (lsub_n (lsub_0)))))))) ?_
        exact ok_X7_isWord_29 FU v1 v3 v4 0 σ5 _ h
      · rw [if_neg c1] at h
        refine aw_forget (L' := [none, none, none, none, none, none, none]) (lsub_n (lsub_n (lsub_n (lsub_n (lsub_n (lsub_n (lsub_n (lsub_0)))))))) ?_
        exact ok_X7_isWord_24 σ5 _ h
