/-! printed by wip/whole/gen4.py from the class file: (choose chooseFor), settle, dawn, chain, greatest, all, stoneSet, stone, seen, narrow, hoursFrom, began, markAll, gather, bitCount, unlike, whom, bid, highestBidder, leave -/
def b_X0_choose (rc : Nat → Int32 → Int32 → Sg → Option Sg) (v1 : Int32) (v2 : Int32) (σ : Sg) : Option Sg :=
  bnd (f_J6_bitCount_0f7a4 (shr (σ.1 62 5) v1) σ) fun r3 σ2 =>
  if (σ2.1 62 1) < (v2 + r3) then (
    if 8 ≤ v1 then (
      ltσ (wI σ2 62 1 v2) fun σ4 =>
      grd (cpg 0 0 8 8 8) <|
      ltσ (wC σ4 64 (ix 0) 63 (ix 0) (ix 8)) fun σ6 =>
      some σ6
    ) else (
      bndV (rc 1 v1 v2 σ2) fun σ9 =>
      some σ9
    )
  ) else (
    some σ2
  )
set_option maxRecDepth 100000 in
set_option maxHeartbeats 4000000 in
theorem okb_X0_choose {κ : Kd} {dd : Nat} (hdd : 2 ≤ dd) {rc : Nat → Int32 → Int32 → Sg → Option Sg} (hrc : ∀ i a b σ q, rc i a b σ = some q → AMet κ (scP0 i) dd (scA0 i a b) σ (none, q)) {v1 : Int32} {v2 : Int32} {σ : Sg} {q : Sg} (h : b_X0_choose rc v1 v2 σ = some q) : AMet κ pX0_choose (dd + 1) [aR 0 0 62, aI v1, aI v2] σ (none, q) := by
  unfold b_X0_choose at h
  refine amet_of okp_X0_choose [(false, aR 0 0 62), (false, aI v1), (false, aI v2)] (List.forall_mem_cons.mpr ⟨rfl, List.forall_mem_cons.mpr ⟨rfl, List.forall_mem_cons.mpr ⟨rfl, (fun _ hn => absurd hn List.not_mem_nil)⟩⟩⟩) 0 rfl ?_
  show AW κ pX0_choose (dd + 1) (none, q) 0 [some (aR 0 0 62), some (aI v1), some (aI v2)] [] σ
  refine aw_seq [(.iload_n 2, 1, ax0), (.aload_n 0, 1, ax0), (.getfield 34, 3, (axF 0 5 (0, 0, 0, none))), (.iload_n 1, 1, ax0), (.ishr, 1, ax0)] (pc' := 7) (L' := [some (aR 0 0 62), some (aI v1), some (aI v2)]) (stk' := [aI (shr (σ.1 62 5) v1), aI v2]) (σ' := σ) (g := []) (by decide +kernel) rfl rfl ?_
  obtain ⟨r3, σ2, h1, h⟩ := bnd_some h
  refine aw_cS (P' := pJ6_bitCount_0f7a4) (idx := 53) (d' := 1) [aI (shr (σ.1 62 5) v1)] [aI v2] (ov := (some (aI r3))) (stk2 := [aI r3, aI v2]) okp_J6_bitCount_0f7a4 (by decide +kernel) ml_RX0_53 tok_J6_bitCount_0f7a4 nar_J6_bitCount_0f7a4 (room2_le (d0 := 2 + 1) (by decide) (by omega)) rfl (Nat.le_of_ble_eq_true rfl) (ok_J6_bitCount_0f7a4 h1) rfl ?_
  refine aw_seq [(.iadd, 1, ax0), (.aload_n 0, 1, ax0), (.getfield 46, 3, (axF 0 1 (0, 0, 0, none)))] (pc' := 15) (L' := [some (aR 0 0 62), some (aI v1), some (aI v2)]) (stk' := [aI (σ2.1 62 1), aI (v2 + r3)]) (σ' := σ2) (g := []) (by decide +kernel) rfl rfl ?_
  refine aw_icmp_gt (off := 4) (tgt := 19) (by decide +kernel) (by decide) (fun c1 => ?_) (fun c1 => ?_)
  · rw [if_pos c1] at h
    refine aw_seq [(.iload_n 1, 1, ax0), (.bipush 8, 2, (axI 8))] (pc' := 22) (L' := [some (aR 0 0 62), some (aI v1), some (aI v2)]) (stk' := [aI 8, aI v1]) (σ' := σ2) (g := []) (by decide +kernel) rfl rfl ?_
    refine aw_icmp_ge (off := 10) (tgt := 32) (by decide +kernel) (by decide) (fun c1 => ?_) (fun c1 => ?_)
    · rw [if_pos c1] at h
      obtain ⟨σ4, e5, h⟩ := ltσ_some h
      refine aw_seq [(.aload_n 0, 1, ax0), (.iload_n 2, 1, ax0), (.putfield 46, 3, (axF 0 1 (0, 0, 0, none)))] (pc' := 37) (L' := [some (aR 0 0 62), some (aI v1), some (aI v2)]) (stk' := []) (σ' := σ4) (g := []) (by decide +kernel) (by rw [e5]; rfl) rfl ?_
      refine aw_seq [(.aload_n 0, 1, ax0), (.getfield 15, 3, (axF 0 2 (2, 2, 13, some 8))), (.iconst 0, 1, (axI 0)), (.aload_n 0, 1, ax0), (.getfield 9, 3, (axF 0 0 (2, 1, 13, some 8))), (.iconst 0, 1, (axI 0)), (.bipush 8, 2, (axI 8))] (pc' := 49) (L' := [some (aR 0 0 62), some (aI v1), some (aI v2)]) (stk' := [aI 8, aI 0, aR 13 8 63, aI 0, aR 13 8 64]) (σ' := σ4) (g := []) (by decide +kernel) rfl rfl ?_
      obtain ⟨hg, h⟩ := grd_some h
      obtain ⟨σ6, e7, h⟩ := ltσ_some h
      refine aw_copyI (idx := 62) (by omega) (Nat.le_of_ble_eq_true rfl) jw_copy ml_RX0_62 (by decide +kernel) hg ?_
      rw [← e7]
      cases h
      exact aw_vret rfl (by decide +kernel)
    · rw [if_neg c1] at h
      refine aw_seq [(.aload_n 0, 1, ax0), (.iload_n 1, 1, ax0), (.iload_n 2, 1, ax0)] (pc' := 28) (L' := [some (aR 0 0 62), some (aI v1), some (aI v2)]) (stk' := [aI v2, aI v1, aR 0 0 62]) (σ' := σ2) (g := []) (by decide +kernel) rfl rfl ?_
      obtain ⟨σ9, h8, h⟩ := bndV_some h
      refine aw_cV (P' := pX0_chooseFor) (idx := 59) (d' := dd) (c := 0) (n := 0) (k := 62) [aI v1, aI v2] [] (ov := none) (stk2 := []) okp_X0_chooseFor (by decide +kernel) ml_RX0_59 vok_X0_chooseFor (by decide) rfl nar_X0_chooseFor (room2_succ rfl) rfl (Nat.le_of_ble_eq_true rfl) (hrc _ _ _ _ _ h8) rfl ?_
      cases h
      exact aw_vret rfl (by decide +kernel)
  · rw [if_neg c1] at h
    cases h
    exact aw_vret rfl (by decide +kernel)
def f_X0_chooseFor_72 (rc : Nat → Int32 → Int32 → Sg → Option Sg) (rec_2 : Int32 → Int32 → Int32 → Sg → Option Sg) (v1 : Int32) (v2 : Int32) (v3 : Int32) (σ : Sg) : Option Sg :=
  rec_2 v1 v2 (v3 + 1) σ
set_option maxRecDepth 100000 in
set_option maxHeartbeats 4000000 in
theorem ok_X0_chooseFor_72 {κ : Kd}  {dd : Nat} (hdd : 2 ≤ dd) {rc : Nat → Int32 → Int32 → Sg → Option Sg} (hrc : ∀ i a b σ q, rc i a b σ = some q → AMet κ (scP0 i) dd (scA0 i a b) σ (none, q))  {rec_2 : Int32 → Int32 → Int32 → Sg → Option Sg} (hrec_2 : ∀ (v1 : Int32) (v2 : Int32) (v3 : Int32) (σ : Sg) (q : Sg), rec_2 v1 v2 v3 σ = some q → AW κ pX0_chooseFor (dd + 1) (none, q) 2 [some (aR 0 0 62), some (aI v1), some (aI v2), some (aI v3)] [] σ) : ∀ (v1 : Int32) (v2 : Int32) (v3 : Int32) (σ : Sg) (q : Sg), f_X0_chooseFor_72 rc rec_2 v1 v2 v3 σ = some q → AW κ pX0_chooseFor (dd + 1) (none, q) 72 [some (aR 0 0 62), some (aI v1), some (aI v2), some (aI v3)] [] σ := by
  intro v1 v2 v3 σ q h
  unfold f_X0_chooseFor_72 at h
  refine aw_seq [(.iinc 3 1, 3, (axI 1))] (pc' := 75) (L' := [some (aR 0 0 62), some (aI v1), some (aI v2), some (aI (v3 + 1))]) (stk' := []) (σ' := σ) (g := []) (by decide +kernel) rfl rfl ?_
  refine aw_goto (off := (-73)) (tgt := 2) (by decide +kernel) (by decide) ?_
  refine aw_forget (L' := [some (aR 0 0 62), some (aI v1), some (aI v2), some (aI (v3 + 1))]) (lsub_s (lsub_s (lsub_s (lsub_s (lsub_0))))) ?_
  exact hrec_2 v1 v2 (v3 + 1) σ _ h
def f_X0_chooseFor_2 (rc : Nat → Int32 → Int32 → Sg → Option Sg)  : Nat → Int32 → Int32 → Int32 → Sg → Option Sg
  | 0, _, _, _, _ => none
  | fu + 1, v1, v2, v3, σ =>
    if 8 ≤ v3 then (
      grd (inb v1 8 && true) <|
      ltσ (wI σ 64 (ix v1) (-1)) fun σ1 =>
      bndV (rc 0 (v1 + 1) v2 σ1) fun σ4 =>
      some σ4
    ) else (
      grd (inb v1 8 && true) <|
      if ((shr (σ.1 66 (ix v1)) v3) &&& 1) = 1 then (
        grd (inb v3 8 && true) <|
        if (σ.1 62 6) ≤ (σ.1 65 (ix v3)) then (
          f_X0_chooseFor_72 rc (f_X0_chooseFor_2 rc fu) v1 v2 v3 σ
        ) else (
          grd (inb v3 8 && (inb v3 8 && true)) <|
          ltσ (wI σ 65 (ix v3) ((σ.1 65 (ix v3)) + 1)) fun σ5 =>
          grd (inb v1 8 && true) <|
          ltσ (wI σ5 64 (ix v1) v3) fun σ7 =>
          bndV (rc 0 (v1 + 1) (v2 + 1) σ7) fun σ10 =>
          grd (inb v3 8 && (inb v3 8 && true)) <|
          ltσ (wI σ10 65 (ix v3) ((σ10.1 65 (ix v3)) - 1)) fun σ11 =>
          f_X0_chooseFor_72 rc (f_X0_chooseFor_2 rc fu) v1 v2 v3 σ11
        )
      ) else (
        f_X0_chooseFor_72 rc (f_X0_chooseFor_2 rc fu) v1 v2 v3 σ
      )
    )
set_option maxRecDepth 100000 in
set_option maxHeartbeats 4000000 in
theorem ok_X0_chooseFor_2 {κ : Kd}  {dd : Nat} (hdd : 2 ≤ dd) {rc : Nat → Int32 → Int32 → Sg → Option Sg} (hrc : ∀ i a b σ q, rc i a b σ = some q → AMet κ (scP0 i) dd (scA0 i a b) σ (none, q))   : ∀ (fu : Nat) (v1 : Int32) (v2 : Int32) (v3 : Int32) (σ : Sg) (q : Sg), f_X0_chooseFor_2 rc fu v1 v2 v3 σ = some q → AW κ pX0_chooseFor (dd + 1) (none, q) 2 [some (aR 0 0 62), some (aI v1), some (aI v2), some (aI v3)] [] σ := by
  intro fu
  induction fu with
  | zero =>
    intro v1 v2 v3 σ q h
    unfold f_X0_chooseFor_2 at h
    cases h
  | succ fu ih =>
    intro v1 v2 v3 σ q h
    unfold f_X0_chooseFor_2 at h
    refine aw_seq [(.iload_n 3, 1, ax0), (.bipush 8, 2, (axI 8))] (pc' := 5) (L' := [some (aR 0 0 62), some (aI v1), some (aI v2), some (aI v3)]) (stk' := [aI 8, aI v3]) (σ' := σ) (g := []) (by decide +kernel) rfl rfl ?_
    refine aw_icmp_ge (off := 73) (tgt := 78) (by decide +kernel) (by decide) (fun c1 => ?_) (fun c1 => ?_)
    · rw [if_pos c1] at h
      obtain ⟨hg, h⟩ := grd_some h
      obtain ⟨σ1, e2, h⟩ := ltσ_some h
      refine aw_seq [(.aload_n 0, 1, ax0), (.getfield 15, 3, (axF 0 2 (2, 2, 13, some 8))), (.iload_n 1, 1, ax0), (.iconst (-1), 1, (axI (-1))), (.iastore, 1, ax0)] (pc' := 85) (L' := [some (aR 0 0 62), some (aI v1), some (aI v2), some (aI v3)]) (stk' := []) (σ' := σ1) (g := [inb v1 8]) (by decide +kernel) (by rw [e2]; rfl) hg ?_
      refine aw_seq [(.aload_n 0, 1, ax0), (.iload_n 1, 1, ax0), (.iconst 1, 1, (axI 1)), (.iadd, 1, ax0), (.iload_n 2, 1, ax0)] (pc' := 90) (L' := [some (aR 0 0 62), some (aI v1), some (aI v2), some (aI v3)]) (stk' := [aI v2, aI (v1 + 1), aR 0 0 62]) (σ' := σ1) (g := []) (by decide +kernel) rfl rfl ?_
      obtain ⟨σ4, h3, h⟩ := bndV_some h
      refine aw_cV (P' := pX0_choose) (idx := 49) (d' := dd) (c := 0) (n := 0) (k := 62) [aI (v1 + 1), aI v2] [] (ov := none) (stk2 := []) okp_X0_choose (by decide +kernel) ml_RX0_49 vok_X0_choose (by decide) rfl nar_X0_choose (room2_succ rfl) rfl (Nat.le_of_ble_eq_true rfl) (hrc _ _ _ _ _ h3) rfl ?_
      cases h
      exact aw_vret rfl (by decide +kernel)
    · rw [if_neg c1] at h
      obtain ⟨hg, h⟩ := grd_some h
      refine aw_seq [(.aload_n 0, 1, ax0), (.getfield 21, 3, (axF 0 4 (2, 4, 13, some 8))), (.iload_n 1, 1, ax0), (.iaload, 1, ax0), (.iload_n 3, 1, ax0), (.ishr, 1, ax0), (.iconst 1, 1, (axI 1)), (.iand, 1, ax0), (.iconst 1, 1, (axI 1))] (pc' := 19) (L' := [some (aR 0 0 62), some (aI v1), some (aI v2), some (aI v3)]) (stk' := [aI 1, aI ((shr (σ.1 66 (ix v1)) v3) &&& 1)]) (σ' := σ) (g := [inb v1 8]) (by decide +kernel) rfl hg ?_
      refine aw_icmp_ne (off := 53) (tgt := 72) (by decide +kernel) (by decide) (fun c1 => ?_) (fun c1 => ?_)
      · rw [if_neg c1] at h
        refine aw_forget (L' := [some (aR 0 0 62), some (aI v1), some (aI v2), some (aI v3)]) (lsub_s (lsub_s (lsub_s (lsub_s (lsub_0))))) ?_
        exact ok_X0_chooseFor_72 hdd hrc ih v1 v2 v3 σ _ h
      · rw [if_pos c1] at h
        obtain ⟨hg, h⟩ := grd_some h
        refine aw_seq [(.aload_n 0, 1, ax0), (.getfield 18, 3, (axF 0 3 (2, 3, 13, some 8))), (.iload_n 3, 1, ax0), (.iaload, 1, ax0), (.aload_n 0, 1, ax0), (.getfield 43, 3, (axF 0 6 (0, 0, 0, none)))] (pc' := 32) (L' := [some (aR 0 0 62), some (aI v1), some (aI v2), some (aI v3)]) (stk' := [aI (σ.1 62 6), aI (σ.1 65 (ix v3))]) (σ' := σ) (g := [inb v3 8]) (by decide +kernel) rfl hg ?_
        refine aw_icmp_ge (off := 40) (tgt := 72) (by decide +kernel) (by decide) (fun c1 => ?_) (fun c1 => ?_)
        · rw [if_pos c1] at h
          refine aw_forget (L' := [some (aR 0 0 62), some (aI v1), some (aI v2), some (aI v3)]) (lsub_s (lsub_s (lsub_s (lsub_s (lsub_0))))) ?_
          exact ok_X0_chooseFor_72 hdd hrc ih v1 v2 v3 σ _ h
        · rw [if_neg c1] at h
          obtain ⟨hg, h⟩ := grd_some h
          obtain ⟨σ5, e6, h⟩ := ltσ_some h
          refine aw_seq [(.aload_n 0, 1, ax0), (.getfield 18, 3, (axF 0 3 (2, 3, 13, some 8))), (.iload_n 3, 1, ax0), (.dup2, 1, ax0), (.iaload, 1, ax0), (.iconst 1, 1, (axI 1)), (.iadd, 1, ax0), (.iastore, 1, ax0)] (pc' := 45) (L' := [some (aR 0 0 62), some (aI v1), some (aI v2), some (aI v3)]) (stk' := []) (σ' := σ5) (g := [inb v3 8, inb v3 8]) (by decide +kernel) (by rw [e6]; rfl) hg ?_
          obtain ⟨hg, h⟩ := grd_some h
          obtain ⟨σ7, e8, h⟩ := ltσ_some h
          refine aw_seq [(.aload_n 0, 1, ax0), (.getfield 15, 3, (axF 0 2 (2, 2, 13, some 8))), (.iload_n 1, 1, ax0), (.iload_n 3, 1, ax0), (.iastore, 1, ax0)] (pc' := 52) (L' := [some (aR 0 0 62), some (aI v1), some (aI v2), some (aI v3)]) (stk' := []) (σ' := σ7) (g := [inb v1 8]) (by decide +kernel) (by rw [e8]; rfl) hg ?_
          refine aw_seq [(.aload_n 0, 1, ax0), (.iload_n 1, 1, ax0), (.iconst 1, 1, (axI 1)), (.iadd, 1, ax0), (.iload_n 2, 1, ax0), (.iconst 1, 1, (axI 1)), (.iadd, 1, ax0)] (pc' := 59) (L' := [some (aR 0 0 62), some (aI v1), some (aI v2), some (aI v3)]) (stk' := [aI (v2 + 1), aI (v1 + 1), aR 0 0 62]) (σ' := σ7) (g := []) (by decide +kernel) rfl rfl ?_
          obtain ⟨σ10, h9, h⟩ := bndV_some h
          refine aw_cV (P' := pX0_choose) (idx := 49) (d' := dd) (c := 0) (n := 0) (k := 62) [aI (v1 + 1), aI (v2 + 1)] [] (ov := none) (stk2 := []) okp_X0_choose (by decide +kernel) ml_RX0_49 vok_X0_choose (by decide) rfl nar_X0_choose (room2_succ rfl) rfl (Nat.le_of_ble_eq_true rfl) (hrc _ _ _ _ _ h9) rfl ?_
          obtain ⟨hg, h⟩ := grd_some h
          obtain ⟨σ11, e12, h⟩ := ltσ_some h
          refine aw_seq [(.aload_n 0, 1, ax0), (.getfield 18, 3, (axF 0 3 (2, 3, 13, some 8))), (.iload_n 3, 1, ax0), (.dup2, 1, ax0), (.iaload, 1, ax0), (.iconst 1, 1, (axI 1)), (.isub, 1, ax0), (.iastore, 1, ax0)] (pc' := 72) (L' := [some (aR 0 0 62), some (aI v1), some (aI v2), some (aI v3)]) (stk' := []) (σ' := σ11) (g := [inb v3 8, inb v3 8]) (by decide +kernel) (by rw [e12]; rfl) hg ?_
          refine aw_forget (L' := [some (aR 0 0 62), some (aI v1), some (aI v2), some (aI v3)]) (lsub_s (lsub_s (lsub_s (lsub_s (lsub_0))))) ?_
          exact ok_X0_chooseFor_72 hdd hrc ih v1 v2 v3 σ11 _ h
def b_X0_chooseFor (rc : Nat → Int32 → Int32 → Sg → Option Sg) (v1 : Int32) (v2 : Int32) (σ : Sg) : Option Sg :=
  f_X0_chooseFor_2 rc FU v1 v2 0 σ
set_option maxRecDepth 100000 in
set_option maxHeartbeats 4000000 in
theorem okb_X0_chooseFor {κ : Kd} {dd : Nat} (hdd : 2 ≤ dd) {rc : Nat → Int32 → Int32 → Sg → Option Sg} (hrc : ∀ i a b σ q, rc i a b σ = some q → AMet κ (scP0 i) dd (scA0 i a b) σ (none, q)) {v1 : Int32} {v2 : Int32} {σ : Sg} {q : Sg} (h : b_X0_chooseFor rc v1 v2 σ = some q) : AMet κ pX0_chooseFor (dd + 1) [aR 0 0 62, aI v1, aI v2] σ (none, q) := by
  unfold b_X0_chooseFor at h
  refine amet_of okp_X0_chooseFor [(false, aR 0 0 62), (false, aI v1), (false, aI v2)] (List.forall_mem_cons.mpr ⟨rfl, List.forall_mem_cons.mpr ⟨rfl, List.forall_mem_cons.mpr ⟨rfl, (fun _ hn => absurd hn List.not_mem_nil)⟩⟩⟩) 1 rfl ?_
  show AW κ pX0_chooseFor (dd + 1) (none, q) 0 [some (aR 0 0 62), some (aI v1), some (aI v2), none] [] σ
  refine aw_seq [(.iconst 0, 1, (axI 0)), (.istore_n 3, 1, ax0)] (pc' := 2) (L' := [some (aR 0 0 62), some (aI v1), some (aI v2), some (aI 0)]) (stk' := []) (σ' := σ) (g := []) (by decide +kernel) rfl rfl ?_
  refine aw_forget (L' := [some (aR 0 0 62), some (aI v1), some (aI v2), some (aI 0)]) (lsub_s (lsub_s (lsub_s (lsub_s (lsub_0))))) ?_
  exact ok_X0_chooseFor_2 hdd hrc FU v1 v2 0 σ _ h
def f_SCC0 : Nat → Nat → Int32 → Int32 → Sg → Option Sg
  | 0, _, _, _, _ => none
  | n + 1, 0, a, b, σ => b_X0_choose (f_SCC0 n) a b σ
  | n + 1, _, a, b, σ => b_X0_chooseFor (f_SCC0 n) a b σ
set_option maxRecDepth 100000 in
set_option maxHeartbeats 4000000 in
theorem ok_SCC0 {κ : Kd} : ∀ (n dd : Nat), dd = 2 + n → ∀ (i : Nat) (a b : Int32) (σ q : Sg), f_SCC0 n i a b σ = some q → AMet κ (scP0 i) dd (scA0 i a b) σ (none, q) := by
  intro n
  induction n with
  | zero =>
    intro dd hd i a b σ q h
    unfold f_SCC0 at h
    cases h
  | succ n ih =>
    intro dd hd i a b σ q h
    obtain ⟨d1, rfl⟩ : ∃ d1, dd = d1 + 1 := ⟨2 + n, by omega⟩
    have hdd : 2 ≤ d1 := by omega
    have hrc := ih d1 (by omega)
    match i, h with
    | 0, h => exact okb_X0_choose hdd hrc (by unfold f_SCC0 at h; exact h)
    | i + 1, h => exact okb_X0_chooseFor hdd hrc (by unfold f_SCC0 at h; exact h)
def f_X0_choose (a b : Int32) (σ : Sg) : Option Sg := f_SCC0 200 0 a b σ
set_option maxRecDepth 100000 in
set_option maxHeartbeats 4000000 in
theorem ok_X0_choose {κ : Kd} {a b : Int32} {σ q : Sg} (h : f_X0_choose a b σ = some q) : AMet κ pX0_choose 202 [aR 0 0 62, aI a, aI b] σ (none, q) := ok_SCC0 200 202 rfl 0 a b σ q h
def f_X0_chooseFor (a b : Int32) (σ : Sg) : Option Sg := f_SCC0 200 1 a b σ
set_option maxRecDepth 100000 in
set_option maxHeartbeats 4000000 in
theorem ok_X0_chooseFor {κ : Kd} {a b : Int32} {σ q : Sg} (h : f_X0_chooseFor a b σ = some q) : AMet κ pX0_chooseFor 202 [aR 0 0 62, aI a, aI b] σ (none, q) := ok_SCC0 200 202 rfl 1 a b σ q h
def f_X0_settle_84 (t : Nat) (s : Nat) (rec_22 : Int32 → Int32 → Int32 → Int32 → Sg → Option Sg) (v3 : Int32) (v4 : Int32) (v5 : Int32) (v6 : Int32) (s1 : Int32) (s2 : Int32) (σ : Sg) : Option Sg :=
  ltσ (wI σ 62 5 (s1 ||| s2)) fun σ1 =>
  grd (inb v6 8 && true) <|
  ltσ (wI σ1 65 (ix v6) 0) fun σ3 =>
  grd (inb v6 8 && true) <|
  ltσ (wI σ3 63 (ix v6) (-1)) fun σ5 =>
  rec_22 v3 v4 v5 (v6 + 1) σ5
set_option maxRecDepth 100000 in
set_option maxHeartbeats 4000000 in
theorem ok_X0_settle_84 {κ : Kd} {t : Nat} {s : Nat}  {rec_22 : Int32 → Int32 → Int32 → Int32 → Sg → Option Sg} (hrec_22 : ∀ (v3 : Int32) (v4 : Int32) (v5 : Int32) (v6 : Int32) (σ : Sg) (q : Sg), rec_22 v3 v4 v5 v6 σ = some q → AW κ pX0_settle 203 (none, q) 22 [some (aR 0 0 62), none, some (aR 5 0 s), some (aI v3), some (aI v4), some (aI v5), some (aI v6)] [] σ) : ∀ (v3 : Int32) (v4 : Int32) (v5 : Int32) (v6 : Int32) (s1 : Int32) (s2 : Int32) (σ : Sg) (q : Sg), f_X0_settle_84 t s rec_22 v3 v4 v5 v6 s1 s2 σ = some q → AW κ pX0_settle 203 (none, q) 84 [some (aR 0 0 62), none, some (aR 5 0 s), some (aI v3), some (aI v4), some (aI v5), some (aI v6)] [aI s2, aI s1, aR 0 0 62] σ := by
  intro v3 v4 v5 v6 s1 s2 σ q h
  unfold f_X0_settle_84 at h
  obtain ⟨σ1, e2, h⟩ := ltσ_some h
  refine aw_seq [(.ior, 1, ax0), (.putfield 34, 3, (axF 0 5 (0, 0, 0, none)))] (pc' := 88) (L' := [some (aR 0 0 62), none, some (aR 5 0 s), some (aI v3), some (aI v4), some (aI v5), some (aI v6)]) (stk' := []) (σ' := σ1) (g := []) (by decide +kernel) (by rw [e2]; rfl) rfl ?_
  obtain ⟨hg, h⟩ := grd_some h
  obtain ⟨σ3, e4, h⟩ := ltσ_some h
  refine aw_seq [(.aload_n 0, 1, ax0), (.getfield 18, 3, (axF 0 3 (2, 3, 13, some 8))), (.iload 6, 2, ax0), (.iconst 0, 1, (axI 0)), (.iastore, 1, ax0)] (pc' := 96) (L' := [some (aR 0 0 62), none, some (aR 5 0 s), some (aI v3), some (aI v4), some (aI v5), some (aI v6)]) (stk' := []) (σ' := σ3) (g := [inb v6 8]) (by decide +kernel) (by rw [e4]; rfl) hg ?_
  obtain ⟨hg, h⟩ := grd_some h
  obtain ⟨σ5, e6, h⟩ := ltσ_some h
  refine aw_seq [(.aload_n 0, 1, ax0), (.getfield 9, 3, (axF 0 0 (2, 1, 13, some 8))), (.iload 6, 2, ax0), (.iconst (-1), 1, (axI (-1))), (.iastore, 1, ax0)] (pc' := 104) (L' := [some (aR 0 0 62), none, some (aR 5 0 s), some (aI v3), some (aI v4), some (aI v5), some (aI v6)]) (stk' := []) (σ' := σ5) (g := [inb v6 8]) (by decide +kernel) (by rw [e6]; rfl) hg ?_
  refine aw_seq [(.iinc 6 1, 3, (axI 1))] (pc' := 107) (L' := [some (aR 0 0 62), none, some (aR 5 0 s), some (aI v3), some (aI v4), some (aI v5), some (aI (v6 + 1))]) (stk' := []) (σ' := σ5) (g := []) (by decide +kernel) rfl rfl ?_
  refine aw_goto (off := (-85)) (tgt := 22) (by decide +kernel) (by decide) ?_
  refine aw_forget (L' := [some (aR 0 0 62), none, some (aR 5 0 s), some (aI v3), some (aI v4), some (aI v5), some (aI (v6 + 1))]) (lsub_s (lsub_n (lsub_s (lsub_s (lsub_s (lsub_s (lsub_s (lsub_0)))))))) ?_
  exact hrec_22 v3 v4 v5 (v6 + 1) σ5 _ h
def f_X0_settle_60 (t : Nat) (s : Nat) (rec_22 : Int32 → Int32 → Int32 → Int32 → Sg → Option Sg) (v3 : Int32) (v4 : Int32) (v5 : Int32) (v6 : Int32) (s1 : Int32) (s2 : Int32) (σ : Sg) : Option Sg :=
  grd (inb s1 8 && true) <|
  ltσ (wI σ 66 (ix s1) s2) fun σ7 =>
  grd (inb v6 8 && true) <|
  if (σ7.1 66 (ix v6)) = 0 then (
    f_X0_settle_84 t s rec_22 v3 v4 v5 v6 (σ7.1 62 5) 0 σ7
  ) else (
    f_X0_settle_84 t s rec_22 v3 v4 v5 v6 (σ7.1 62 5) (shl 1 v6) σ7
  )
set_option maxRecDepth 100000 in
set_option maxHeartbeats 4000000 in
theorem ok_X0_settle_60 {κ : Kd} {t : Nat} {s : Nat}  {rec_22 : Int32 → Int32 → Int32 → Int32 → Sg → Option Sg} (hrec_22 : ∀ (v3 : Int32) (v4 : Int32) (v5 : Int32) (v6 : Int32) (σ : Sg) (q : Sg), rec_22 v3 v4 v5 v6 σ = some q → AW κ pX0_settle 203 (none, q) 22 [some (aR 0 0 62), none, some (aR 5 0 s), some (aI v3), some (aI v4), some (aI v5), some (aI v6)] [] σ) : ∀ (v3 : Int32) (v4 : Int32) (v5 : Int32) (v6 : Int32) (s1 : Int32) (s2 : Int32) (σ : Sg) (q : Sg), f_X0_settle_60 t s rec_22 v3 v4 v5 v6 s1 s2 σ = some q → AW κ pX0_settle 203 (none, q) 60 [some (aR 0 0 62), none, some (aR 5 0 s), some (aI v3), some (aI v4), some (aI v5), some (aI v6)] [aI s2, aI s1, aR 13 8 66] σ := by
  intro v3 v4 v5 v6 s1 s2 σ q h
  unfold f_X0_settle_60 at h
  obtain ⟨hg, h⟩ := grd_some h
  obtain ⟨σ7, e8, h⟩ := ltσ_some h
  refine aw_seq [(.iastore, 1, ax0)] (pc' := 61) (L' := [some (aR 0 0 62), none, some (aR 5 0 s), some (aI v3), some (aI v4), some (aI v5), some (aI v6)]) (stk' := []) (σ' := σ7) (g := [inb s1 8]) (by decide +kernel) (by rw [e8]; rfl) hg ?_
  obtain ⟨hg, h⟩ := grd_some h
  refine aw_seq [(.aload_n 0, 1, ax0), (.dup, 1, ax0), (.getfield 34, 3, (axF 0 5 (0, 0, 0, none))), (.aload_n 0, 1, ax0), (.getfield 21, 3, (axF 0 4 (2, 4, 13, some 8))), (.iload 6, 2, ax0), (.iaload, 1, ax0)] (pc' := 73) (L' := [some (aR 0 0 62), none, some (aR 5 0 s), some (aI v3), some (aI v4), some (aI v5), some (aI v6)]) (stk' := [aI (σ7.1 66 (ix v6)), aI (σ7.1 62 5), aR 0 0 62]) (σ' := σ7) (g := [inb v6 8]) (by decide +kernel) rfl hg ?_
  refine aw_if_ne (off := 7) (tgt := 80) (by decide +kernel) (by decide) (fun c1 => ?_) (fun c1 => ?_)
  · rw [if_neg c1] at h
    refine aw_seq [(.iconst 1, 1, (axI 1)), (.iload 6, 2, ax0), (.ishl, 1, ax0)] (pc' := 84) (L' := [some (aR 0 0 62), none, some (aR 5 0 s), some (aI v3), some (aI v4), some (aI v5), some (aI v6)]) (stk' := [aI (shl 1 v6), aI (σ7.1 62 5), aR 0 0 62]) (σ' := σ7) (g := []) (by decide +kernel) rfl rfl ?_
    refine aw_forget (L' := [some (aR 0 0 62), none, some (aR 5 0 s), some (aI v3), some (aI v4), some (aI v5), some (aI v6)]) (lsub_s (lsub_n (lsub_s (lsub_s (lsub_s (lsub_s (lsub_s (lsub_0)))))))) ?_
    exact ok_X0_settle_84 hrec_22 v3 v4 v5 v6 (σ7.1 62 5) (shl 1 v6) σ7 _ h
  · rw [if_pos c1] at h
    refine aw_seq [(.iconst 0, 1, (axI 0))] (pc' := 77) (L' := [some (aR 0 0 62), none, some (aR 5 0 s), some (aI v3), some (aI v4), some (aI v5), some (aI v6)]) (stk' := [aI 0, aI (σ7.1 62 5), aR 0 0 62]) (σ' := σ7) (g := []) (by decide +kernel) rfl rfl ?_
    refine aw_goto (off := 7) (tgt := 84) (by decide +kernel) (by decide) ?_
    refine aw_forget (L' := [some (aR 0 0 62), none, some (aR 5 0 s), some (aI v3), some (aI v4), some (aI v5), some (aI v6)]) (lsub_s (lsub_n (lsub_s (lsub_s (lsub_s (lsub_s (lsub_s (lsub_0)))))))) ?_
    exact ok_X0_settle_84 hrec_22 v3 v4 v5 v6 (σ7.1 62 5) 0 σ7 _ h
def f_X0_settle_22 (t : Nat) (s : Nat)  : Nat → Int32 → Int32 → Int32 → Int32 → Sg → Option Sg
  | 0, _, _, _, _, _ => none
  | fu + 1, v3, v4, v5, v6, σ =>
    if 8 ≤ v6 then (
      ltσ (wI σ 62 6 v3) fun σ9 =>
      ltσ (wI σ9 62 1 0) fun σ11 =>
      bndV (f_X0_choose 0 0 σ11) fun σ14 =>
      some σ14
    ) else (
      if ((shr v5 v6) &&& 1) = 1 then (
        grd (inb v6 8 && true) <|
        f_X0_settle_60 t s (f_X0_settle_22 t s fu) v3 v4 v5 v6 v6 ((σ.1 (s + 2) (ix v6)) &&& v4) σ
      ) else (
        f_X0_settle_60 t s (f_X0_settle_22 t s fu) v3 v4 v5 v6 v6 0 σ
      )
    )
set_option maxRecDepth 100000 in
set_option maxHeartbeats 4000000 in
theorem ok_X0_settle_22 {κ : Kd} {t : Nat} {s : Nat}   : ∀ (fu : Nat) (v3 : Int32) (v4 : Int32) (v5 : Int32) (v6 : Int32) (σ : Sg) (q : Sg), f_X0_settle_22 t s fu v3 v4 v5 v6 σ = some q → AW κ pX0_settle 203 (none, q) 22 [some (aR 0 0 62), none, some (aR 5 0 s), some (aI v3), some (aI v4), some (aI v5), some (aI v6)] [] σ := by
  intro fu
  induction fu with
  | zero =>
    intro v3 v4 v5 v6 σ q h
    unfold f_X0_settle_22 at h
    cases h
  | succ fu ih =>
    intro v3 v4 v5 v6 σ q h
    unfold f_X0_settle_22 at h
    refine aw_seq [(.iload 6, 2, ax0), (.bipush 8, 2, (axI 8))] (pc' := 26) (L' := [some (aR 0 0 62), none, some (aR 5 0 s), some (aI v3), some (aI v4), some (aI v5), some (aI v6)]) (stk' := [aI 8, aI v6]) (σ' := σ) (g := []) (by decide +kernel) rfl rfl ?_
    refine aw_icmp_ge (off := 84) (tgt := 110) (by decide +kernel) (by decide) (fun c1 => ?_) (fun c1 => ?_)
    · rw [if_pos c1] at h
      obtain ⟨σ9, e10, h⟩ := ltσ_some h
      refine aw_seq [(.aload_n 0, 1, ax0), (.iload_n 3, 1, ax0), (.putfield 43, 3, (axF 0 6 (0, 0, 0, none)))] (pc' := 115) (L' := [some (aR 0 0 62), none, some (aR 5 0 s), some (aI v3), some (aI v4), some (aI v5), some (aI v6)]) (stk' := []) (σ' := σ9) (g := []) (by decide +kernel) (by rw [e10]; rfl) rfl ?_
      obtain ⟨σ11, e12, h⟩ := ltσ_some h
      refine aw_seq [(.aload_n 0, 1, ax0), (.iconst 0, 1, (axI 0)), (.putfield 46, 3, (axF 0 1 (0, 0, 0, none)))] (pc' := 120) (L' := [some (aR 0 0 62), none, some (aR 5 0 s), some (aI v3), some (aI v4), some (aI v5), some (aI v6)]) (stk' := []) (σ' := σ11) (g := []) (by decide +kernel) (by rw [e12]; rfl) rfl ?_
      refine aw_seq [(.aload_n 0, 1, ax0), (.iconst 0, 1, (axI 0)), (.iconst 0, 1, (axI 0))] (pc' := 123) (L' := [some (aR 0 0 62), none, some (aR 5 0 s), some (aI v3), some (aI v4), some (aI v5), some (aI v6)]) (stk' := [aI 0, aI 0, aR 0 0 62]) (σ' := σ11) (g := []) (by decide +kernel) rfl rfl ?_
      obtain ⟨σ14, h13, h⟩ := bndV_some h
      refine aw_cV (P' := pX0_choose) (idx := 49) (d' := 202) (c := 0) (n := 0) (k := 62) [aI 0, aI 0] [] (ov := none) (stk2 := []) okp_X0_choose (by decide +kernel) ml_RX0_49 vok_X0_choose (by decide) rfl nar_X0_choose (by decide) rfl (Nat.le_of_ble_eq_true rfl) (ok_X0_choose h13) rfl ?_
      cases h
      exact aw_vret rfl (by decide +kernel)
    · rw [if_neg c1] at h
      refine aw_seq [(.aload_n 0, 1, ax0), (.getfield 21, 3, (axF 0 4 (2, 4, 13, some 8))), (.iload 6, 2, ax0), (.iload 5, 2, ax0), (.iload 6, 2, ax0), (.ishr, 1, ax0), (.iconst 1, 1, (axI 1)), (.iand, 1, ax0), (.iconst 1, 1, (axI 1))] (pc' := 43) (L' := [some (aR 0 0 62), none, some (aR 5 0 s), some (aI v3), some (aI v4), some (aI v5), some (aI v6)]) (stk' := [aI 1, aI ((shr v5 v6) &&& 1), aI v6, aR 13 8 66]) (σ' := σ) (g := []) (by decide +kernel) rfl rfl ?_
      refine aw_icmp_ne (off := 16) (tgt := 59) (by decide +kernel) (by decide) (fun c1 => ?_) (fun c1 => ?_)
      · rw [if_neg c1] at h
        refine aw_seq [(.iconst 0, 1, (axI 0))] (pc' := 60) (L' := [some (aR 0 0 62), none, some (aR 5 0 s), some (aI v3), some (aI v4), some (aI v5), some (aI v6)]) (stk' := [aI 0, aI v6, aR 13 8 66]) (σ' := σ) (g := []) (by decide +kernel) rfl rfl ?_
        refine aw_forget (L' := [some (aR 0 0 62), none, some (aR 5 0 s), some (aI v3), some (aI v4), some (aI v5), some (aI v6)]) (lsub_s (lsub_n (lsub_s (lsub_s (lsub_s (lsub_s (lsub_s (lsub_0)))))))) ?_
        exact ok_X0_settle_60 ih v3 v4 v5 v6 v6 0 σ _ h
      · rw [if_pos c1] at h
        obtain ⟨hg, h⟩ := grd_some h
        refine aw_seq [(.aload_n 2, 1, ax0), (.getfield 38, 3, (axF 5 1 (2, 2, 13, some 8))), (.iload 6, 2, ax0), (.iaload, 1, ax0), (.iload 4, 2, ax0), (.iand, 1, ax0)] (pc' := 56) (L' := [some (aR 0 0 62), none, some (aR 5 0 s), some (aI v3), some (aI v4), some (aI v5), some (aI v6)]) (stk' := [aI ((σ.1 (s + 2) (ix v6)) &&& v4), aI v6, aR 13 8 66]) (σ' := σ) (g := [inb v6 8]) (by decide +kernel) rfl hg ?_
        refine aw_goto (off := 4) (tgt := 60) (by decide +kernel) (by decide) ?_
        refine aw_forget (L' := [some (aR 0 0 62), none, some (aR 5 0 s), some (aI v3), some (aI v4), some (aI v5), some (aI v6)]) (lsub_s (lsub_n (lsub_s (lsub_s (lsub_s (lsub_s (lsub_s (lsub_0)))))))) ?_
        exact ok_X0_settle_60 ih v3 v4 v5 v6 v6 ((σ.1 (s + 2) (ix v6)) &&& v4) σ _ h
def f_X0_settle (t : Nat) (s : Nat) (v3 : Int32) (σ : Sg) : Option Sg :=
  bnd (f_X8_mayGive t σ) fun r17 σ16 =>
  bnd (f_X8_housesBy t 0 0 σ16) fun r20 σ19 =>
  ltσ (wI σ19 62 5 0) fun σ21 =>
  f_X0_settle_22 t s FU v3 r17 r20 0 σ21
set_option maxRecDepth 100000 in
set_option maxHeartbeats 4000000 in
theorem ok_X0_settle {κ : Kd} {t : Nat} {s : Nat} {v3 : Int32} {σ : Sg} {q : Sg} (h : f_X0_settle t s v3 σ = some q) : AMet κ pX0_settle 203 [aR 0 0 62, aR 8 0 t, aR 5 0 s, aI v3] σ (none, q) := by
  unfold f_X0_settle at h
  refine amet_of okp_X0_settle [(false, aR 0 0 62), (false, aR 8 0 t), (false, aR 5 0 s), (false, aI v3)] (List.forall_mem_cons.mpr ⟨rfl, List.forall_mem_cons.mpr ⟨rfl, List.forall_mem_cons.mpr ⟨rfl, List.forall_mem_cons.mpr ⟨rfl, (fun _ hn => absurd hn List.not_mem_nil)⟩⟩⟩⟩) 3 rfl ?_
  show AW κ pX0_settle 203 (none, q) 0 [some (aR 0 0 62), some (aR 8 0 t), some (aR 5 0 s), some (aI v3), none, none, none] [] σ
  refine aw_seq [(.aload_n 1, 1, ax0)] (pc' := 1) (L' := [some (aR 0 0 62), some (aR 8 0 t), some (aR 5 0 s), some (aI v3), none, none, none]) (stk' := [aR 8 0 t]) (σ' := σ) (g := []) (by decide +kernel) rfl rfl ?_
  obtain ⟨r17, σ16, h15, h⟩ := bnd_some h
  refine aw_cV (P' := pX8_mayGive) (idx := 24) (d' := 2) (c := 8) (n := 0) (k := t) [] [] (ov := (some (aI r17))) (stk2 := [aI r17]) okp_X8_mayGive (by decide +kernel) ml_RX0_24 vok_X8_mayGive (by decide) rfl nar_X8_mayGive (by decide) rfl (Nat.le_of_ble_eq_true rfl) (ok_X8_mayGive h15) rfl ?_
  refine aw_seq [(.istore 4, 2, ax0), (.aload_n 1, 1, ax0), (.iconst 0, 1, (axI 0)), (.iconst 0, 1, (axI 0))] (pc' := 9) (L' := [some (aR 0 0 62), some (aR 8 0 t), some (aR 5 0 s), some (aI v3), some (aI r17), none, none]) (stk' := [aI 0, aI 0, aR 8 0 t]) (σ' := σ16) (g := []) (by decide +kernel) rfl rfl ?_
  obtain ⟨r20, σ19, h18, h⟩ := bnd_some h
  refine aw_cV (P' := pX8_housesBy) (idx := 30) (d' := 1) (c := 8) (n := 0) (k := t) [aI 0, aI 0] [] (ov := (some (aI r20))) (stk2 := [aI r20]) okp_X8_housesBy (by decide +kernel) ml_RX0_30 vok_X8_housesBy (by decide) rfl nar_X8_housesBy (by decide) rfl (Nat.le_of_ble_eq_true rfl) (ok_X8_housesBy h18) rfl ?_
  obtain ⟨σ21, e22, h⟩ := ltσ_some h
  refine aw_seq [(.istore 5, 2, ax0), (.aload_n 0, 1, ax0), (.iconst 0, 1, (axI 0)), (.putfield 34, 3, (axF 0 5 (0, 0, 0, none)))] (pc' := 19) (L' := [some (aR 0 0 62), some (aR 8 0 t), some (aR 5 0 s), some (aI v3), some (aI r17), some (aI r20), none]) (stk' := []) (σ' := σ21) (g := []) (by decide +kernel) (by rw [e22]; rfl) rfl ?_
  refine aw_seq [(.iconst 0, 1, (axI 0)), (.istore 6, 2, ax0)] (pc' := 22) (L' := [some (aR 0 0 62), some (aR 8 0 t), some (aR 5 0 s), some (aI v3), some (aI r17), some (aI r20), some (aI 0)]) (stk' := []) (σ' := σ21) (g := []) (by decide +kernel) rfl rfl ?_
  refine aw_forget (L' := [some (aR 0 0 62), none, some (aR 5 0 s), some (aI v3), some (aI r17), some (aI r20), some (aI 0)]) (lsub_s (lsub_n (lsub_s (lsub_s (lsub_s (lsub_s (lsub_s (lsub_0)))))))) ?_
  exact ok_X0_settle_22 FU v3 r17 r20 0 σ21 _ h
def f_X11_dawn_47    (σ : Sg) : Option (Int32 × Sg) :=
  some ((-2), σ)
set_option maxRecDepth 100000 in
set_option maxHeartbeats 4000000 in
theorem ok_X11_dawn_47 {κ : Kd}    : ∀  (σ : Sg) (q : (Int32 × Sg)), f_X11_dawn_47  σ = some q → AW κ pX11_dawn 204 (some (aI q.1), q.2) 47 [none, none, none] [] σ := by
  intro  σ q h
  unfold f_X11_dawn_47 at h
  refine aw_seq [(.bipush (-2), 2, (axI (-2)))] (pc' := 49) (L' := [none, none, none]) (stk' := [aI (-2)]) (σ' := σ) (g := []) (by decide +kernel) rfl rfl ?_
  cases h
  exact aw_iret rfl (by decide +kernel)
def f_X11_dawn_96   (s0 : Int32) (σ : Sg) : Option (Int32 × Sg) :=
  some (s0, σ)
set_option maxRecDepth 100000 in
set_option maxHeartbeats 4000000 in
theorem ok_X11_dawn_96 {κ : Kd}    : ∀ (s0 : Int32) (σ : Sg) (q : (Int32 × Sg)), f_X11_dawn_96 s0 σ = some q → AW κ pX11_dawn 204 (some (aI q.1), q.2) 96 [none, none, none] [aI s0] σ := by
  intro s0 σ q h
  unfold f_X11_dawn_96 at h
  cases h
  exact aw_iret rfl (by decide +kernel)
def f_X11_dawn_50   (v1 : Int32) (v2 : Int32) (σ : Sg) : Option (Int32 × Sg) :=
  bndV (f_X0_settle 2 8 v1 σ) fun σ2 =>
  if v2 = (-1) then (
    f_X11_dawn_96 (σ2.1 62 1) σ2
  ) else (
    grd (inb v2 8 && true) <|
    f_X11_dawn_96 (σ2.1 63 (ix v2)) σ2
  )
set_option maxRecDepth 100000 in
set_option maxHeartbeats 4000000 in
theorem ok_X11_dawn_50 {κ : Kd}    : ∀ (v1 : Int32) (v2 : Int32) (σ : Sg) (q : (Int32 × Sg)), f_X11_dawn_50 v1 v2 σ = some q → AW κ pX11_dawn 204 (some (aI q.1), q.2) 50 [some (aR 11 0 0), some (aI v1), some (aI v2)] [] σ := by
  intro v1 v2 σ q h
  unfold f_X11_dawn_50 at h
  refine aw_seq [(.aload_n 0, 1, ax0), (.getfield 50, 3, (axF 11 6 (2, 62, 0, some 0))), (.aload_n 0, 1, ax0), (.getfield 10, 3, (axF 11 0 (2, 1, 10, some 0))), (.getfield 68, 3, (axF 10 0 (2, 1, 8, some 0))), (.aload_n 0, 1, ax0), (.getfield 10, 3, (axF 11 0 (2, 1, 10, some 0))), (.getfield 83, 3, (axF 10 1 (2, 7, 5, some 0))), (.iload_n 1, 1, ax0)] (pc' := 69) (L' := [some (aR 11 0 0), some (aI v1), some (aI v2)]) (stk' := [aI v1, aR 5 0 8, aR 8 0 2, aR 0 0 62]) (σ' := σ) (g := []) (by decide +kernel) rfl rfl ?_
  obtain ⟨σ2, h1, h⟩ := bndV_some h
  refine aw_cV (P' := pX0_settle) (idx := 271) (d' := 203) (c := 0) (n := 0) (k := 62) [aR 8 0 2, aR 5 0 8, aI v1] [] (ov := none) (stk2 := []) okp_X0_settle (by decide +kernel) ml_RX11_271 vok_X0_settle (by decide) rfl nar_X0_settle (by decide) rfl (Nat.le_of_ble_eq_true rfl) (ok_X0_settle h1) rfl ?_
  refine aw_seq [(.iload_n 2, 1, ax0), (.iconst (-1), 1, (axI (-1)))] (pc' := 74) (L' := [some (aR 11 0 0), some (aI v1), some (aI v2)]) (stk' := [aI (-1), aI v2]) (σ' := σ2) (g := []) (by decide +kernel) rfl rfl ?_
  refine aw_icmp_ne (off := 13) (tgt := 87) (by decide +kernel) (by decide) (fun c1 => ?_) (fun c1 => ?_)
  · rw [if_neg c1] at h
    obtain ⟨hg, h⟩ := grd_some h
    refine aw_seq [(.aload_n 0, 1, ax0), (.getfield 50, 3, (axF 11 6 (2, 62, 0, some 0))), (.getfield 277, 3, (axF 0 0 (2, 1, 13, some 8))), (.iload_n 2, 1, ax0), (.iaload, 1, ax0)] (pc' := 96) (L' := [some (aR 11 0 0), some (aI v1), some (aI v2)]) (stk' := [aI (σ2.1 63 (ix v2))]) (σ' := σ2) (g := [inb v2 8]) (by decide +kernel) rfl hg ?_
    refine aw_forget (L' := [none, none, none]) (lsub_n (lsub_n (lsub_n (lsub_0)))) ?_
    exact ok_X11_dawn_96 (σ2.1 63 (ix v2)) σ2 _ h
  · rw [if_pos c1] at h
    refine aw_seq [(.aload_n 0, 1, ax0), (.getfield 50, 3, (axF 11 6 (2, 62, 0, some 0))), (.getfield 274, 3, (axF 0 1 (0, 0, 0, none)))] (pc' := 84) (L' := [some (aR 11 0 0), some (aI v1), some (aI v2)]) (stk' := [aI (σ2.1 62 1)]) (σ' := σ2) (g := []) (by decide +kernel) rfl rfl ?_
    refine aw_goto (off := 12) (tgt := 96) (by decide +kernel) (by decide) ?_
    refine aw_forget (L' := [none, none, none]) (lsub_n (lsub_n (lsub_n (lsub_0)))) ?_
    exact ok_X11_dawn_96 (σ2.1 62 1) σ2 _ h
def f_X11_dawn (v1 : Int32) (v2 : Int32) (σ : Sg) : Option (Int32 × Sg) :=
  bnd (f_X11_within v1 1 8 σ) fun r5 σ4 =>
  if r5 = 0 then (
    some ((-2), σ4)
  ) else (
    if v2 = (-1) then (
      f_X11_dawn_50 v1 v2 σ4
    ) else (
      bnd (f_X8_told 2 v2 σ4) fun r8 σ7 =>
      if r8 = 0 then (
        f_X11_dawn_47 σ7
      ) else (
        grd (inb v2 8 && true) <|
        if (σ7.1 5 (ix v2)) = 0 then (
          f_X11_dawn_50 v1 v2 σ7
        ) else (
          f_X11_dawn_47 σ7
        )
      )
    )
  )
set_option maxRecDepth 100000 in
set_option maxHeartbeats 4000000 in
theorem ok_X11_dawn {κ : Kd} {v1 : Int32} {v2 : Int32} {σ : Sg} {q : (Int32 × Sg)} (h : f_X11_dawn v1 v2 σ = some q) : AMet κ pX11_dawn 204 [aR 11 0 0, aI v1, aI v2] σ (some (aI q.1), q.2) := by
  unfold f_X11_dawn at h
  refine amet_of okp_X11_dawn [(false, aR 11 0 0), (false, aI v1), (false, aI v2)] (List.forall_mem_cons.mpr ⟨rfl, List.forall_mem_cons.mpr ⟨rfl, List.forall_mem_cons.mpr ⟨rfl, (fun _ hn => absurd hn List.not_mem_nil)⟩⟩⟩) 0 rfl ?_
  show AW κ pX11_dawn 204 (some (aI q.1), q.2) 0 [some (aR 11 0 0), some (aI v1), some (aI v2)] [] σ
  refine aw_seq [(.iload_n 1, 1, ax0), (.iconst 1, 1, (axI 1)), (.bipush 8, 2, (axI 8))] (pc' := 4) (L' := [some (aR 11 0 0), some (aI v1), some (aI v2)]) (stk' := [aI 8, aI 1, aI v1]) (σ' := σ) (g := []) (by decide +kernel) rfl rfl ?_
  obtain ⟨r5, σ4, h3, h⟩ := bnd_some h
  refine aw_cS (P' := pX11_within) (idx := 79) (d' := 1) [aI v1, aI 1, aI 8] [] (ov := (some (aI r5))) (stk2 := [aI r5]) okp_X11_within (by decide +kernel) ml_RX11_79 tok_X11_within nar_X11_within (by decide) rfl (Nat.le_of_ble_eq_true rfl) (ok_X11_within h3) rfl ?_
  refine aw_if_ne (off := 6) (tgt := 13) (by decide +kernel) (by decide) (fun c1 => ?_) (fun c1 => ?_)
  · rw [if_neg c1] at h
    refine aw_seq [(.iload_n 2, 1, ax0), (.iconst (-1), 1, (axI (-1)))] (pc' := 15) (L' := [some (aR 11 0 0), some (aI v1), some (aI v2)]) (stk' := [aI (-1), aI v2]) (σ' := σ4) (g := []) (by decide +kernel) rfl rfl ?_
    refine aw_icmp_eq (off := 35) (tgt := 50) (by decide +kernel) (by decide) (fun c1 => ?_) (fun c1 => ?_)
    · rw [if_pos c1] at h
      refine aw_forget (L' := [some (aR 11 0 0), some (aI v1), some (aI v2)]) (lsub_s (lsub_s (lsub_s (lsub_0)))) ?_
      exact ok_X11_dawn_50 v1 v2 σ4 _ h
    · rw [if_neg c1] at h
      refine aw_seq [(.aload_n 0, 1, ax0), (.getfield 10, 3, (axF 11 0 (2, 1, 10, some 0))), (.getfield 68, 3, (axF 10 0 (2, 1, 8, some 0))), (.iload_n 2, 1, ax0)] (pc' := 26) (L' := [some (aR 11 0 0), some (aI v1), some (aI v2)]) (stk' := [aI v2, aR 8 0 2]) (σ' := σ4) (g := []) (by decide +kernel) rfl rfl ?_
      obtain ⟨r8, σ7, h6, h⟩ := bnd_some h
      refine aw_cV (P' := pX8_told) (idx := 75) (d' := 1) (c := 8) (n := 0) (k := 2) [aI v2] [] (ov := (some (aI r8))) (stk2 := [aI r8]) okp_X8_told (by decide +kernel) ml_RX11_75 vok_X8_told (by decide) rfl nar_X8_told (by decide) rfl (Nat.le_of_ble_eq_true rfl) (ok_X8_told h6) rfl ?_
      refine aw_if_eq (off := 18) (tgt := 47) (by decide +kernel) (by decide) (fun c1 => ?_) (fun c1 => ?_)
      · rw [if_pos c1] at h
        refine aw_forget (L' := [none, none, none]) (lsub_n (lsub_n (lsub_n (lsub_0)))) ?_
        exact ok_X11_dawn_47 σ7 _ h
      · rw [if_neg c1] at h
        obtain ⟨hg, h⟩ := grd_some h
        refine aw_seq [(.aload_n 0, 1, ax0), (.getfield 10, 3, (axF 11 0 (2, 1, 10, some 0))), (.getfield 68, 3, (axF 10 0 (2, 1, 8, some 0))), (.getfield 200, 3, (axF 8 3 (2, 3, 13, some 8))), (.iload_n 2, 1, ax0), (.iaload, 1, ax0)] (pc' := 44) (L' := [some (aR 11 0 0), some (aI v1), some (aI v2)]) (stk' := [aI (σ7.1 5 (ix v2))]) (σ' := σ7) (g := [inb v2 8]) (by decide +kernel) rfl hg ?_
        refine aw_if_eq (off := 6) (tgt := 50) (by decide +kernel) (by decide) (fun c1 => ?_) (fun c1 => ?_)
        · rw [if_pos c1] at h
          refine aw_forget (L' := [some (aR 11 0 0), some (aI v1), some (aI v2)]) (lsub_s (lsub_s (lsub_s (lsub_0)))) ?_
          exact ok_X11_dawn_50 v1 v2 σ7 _ h
        · rw [if_neg c1] at h
          refine aw_forget (L' := [none, none, none]) (lsub_n (lsub_n (lsub_n (lsub_0)))) ?_
          exact ok_X11_dawn_47 σ7 _ h
  · rw [if_pos c1] at h
    refine aw_seq [(.bipush (-2), 2, (axI (-2)))] (pc' := 12) (L' := [some (aR 11 0 0), some (aI v1), some (aI v2)]) (stk' := [aI (-2)]) (σ' := σ4) (g := []) (by decide +kernel) rfl rfl ?_
    cases h
    exact aw_iret rfl (by decide +kernel)
def f_X11_chain_29    (σ : Sg) : Option (Int32 × Sg) :=
  some ((-1), σ)
set_option maxRecDepth 100000 in
set_option maxHeartbeats 4000000 in
theorem ok_X11_chain_29 {κ : Kd}    : ∀  (σ : Sg) (q : (Int32 × Sg)), f_X11_chain_29  σ = some q → AW κ pX11_chain 3 (some (aI q.1), q.2) 29 [none, none, none, none, none] [] σ := by
  intro  σ q h
  unfold f_X11_chain_29 at h
  refine aw_seq [(.iconst (-1), 1, (axI (-1)))] (pc' := 30) (L' := [none, none, none, none, none]) (stk' := [aI (-1)]) (σ' := σ) (g := []) (by decide +kernel) rfl rfl ?_
  cases h
  exact aw_iret rfl (by decide +kernel)
def f_X11_chain_58   : Nat → Int32 → Int32 → Int32 → Int32 → Sg → Option (Int32 × Sg)
  | 0, _, _, _, _, _ => none
  | fu + 1, v1, v2, v3, v4, σ =>
    if 8 < v4 then (
      some ((-1), σ)
    ) else (
      bnd (f_X5_besideAll 8 v3 σ) fun r3 σ2 =>
      if ((shr (v3 ||| (r3 &&& v2)) v1) &&& 1) = 1 then (
        some (v4, σ2)
      ) else (
        (f_X11_chain_58 fu) v1 v2 (v3 ||| (r3 &&& v2)) (v4 + 1) σ2
      )
    )
set_option maxRecDepth 100000 in
set_option maxHeartbeats 4000000 in
theorem ok_X11_chain_58 {κ : Kd}    : ∀ (fu : Nat) (v1 : Int32) (v2 : Int32) (v3 : Int32) (v4 : Int32) (σ : Sg) (q : (Int32 × Sg)), f_X11_chain_58 fu v1 v2 v3 v4 σ = some q → AW κ pX11_chain 3 (some (aI q.1), q.2) 58 [some (aR 11 0 0), some (aI v1), some (aI v2), some (aI v3), some (aI v4)] [] σ := by
  intro fu
  induction fu with
  | zero =>
    intro v1 v2 v3 v4 σ q h
    unfold f_X11_chain_58 at h
    cases h
  | succ fu ih =>
    intro v1 v2 v3 v4 σ q h
    unfold f_X11_chain_58 at h
    refine aw_seq [(.iload 4, 2, ax0), (.bipush 8, 2, (axI 8))] (pc' := 62) (L' := [some (aR 11 0 0), some (aI v1), some (aI v2), some (aI v3), some (aI v4)]) (stk' := [aI 8, aI v4]) (σ' := σ) (g := []) (by decide +kernel) rfl rfl ?_
    refine aw_icmp_gt (off := 37) (tgt := 99) (by decide +kernel) (by decide) (fun c1 => ?_) (fun c1 => ?_)
    · rw [if_pos c1] at h
      refine aw_seq [(.iconst (-1), 1, (axI (-1)))] (pc' := 100) (L' := [some (aR 11 0 0), some (aI v1), some (aI v2), some (aI v3), some (aI v4)]) (stk' := [aI (-1)]) (σ' := σ) (g := []) (by decide +kernel) rfl rfl ?_
      cases h
      exact aw_iret rfl (by decide +kernel)
    · rw [if_neg c1] at h
      refine aw_seq [(.iload_n 3, 1, ax0), (.aload_n 0, 1, ax0), (.getfield 10, 3, (axF 11 0 (2, 1, 10, some 0))), (.getfield 83, 3, (axF 10 1 (2, 7, 5, some 0))), (.iload_n 3, 1, ax0)] (pc' := 74) (L' := [some (aR 11 0 0), some (aI v1), some (aI v2), some (aI v3), some (aI v4)]) (stk' := [aI v3, aR 5 0 8, aI v3]) (σ' := σ) (g := []) (by decide +kernel) rfl rfl ?_
      obtain ⟨r3, σ2, h1, h⟩ := bnd_some h
      refine aw_cV (P' := pX5_besideAll) (idx := 283) (d' := 1) (c := 5) (n := 0) (k := 8) [aI v3] [aI v3] (ov := (some (aI r3))) (stk2 := [aI r3, aI v3]) okp_X5_besideAll (by decide +kernel) ml_RX11_283 vok_X5_besideAll (by decide) rfl nar_X5_besideAll (by decide) rfl (Nat.le_of_ble_eq_true rfl) (ok_X5_besideAll h1) rfl ?_
      refine aw_seq [(.iload_n 2, 1, ax0), (.iand, 1, ax0), (.ior, 1, ax0), (.istore_n 3, 1, ax0), (.iload_n 3, 1, ax0), (.iload_n 1, 1, ax0), (.ishr, 1, ax0), (.iconst 1, 1, (axI 1)), (.iand, 1, ax0), (.iconst 1, 1, (axI 1))] (pc' := 87) (L' := [some (aR 11 0 0), some (aI v1), some (aI v2), some (aI (v3 ||| (r3 &&& v2))), some (aI v4)]) (stk' := [aI 1, aI ((shr (v3 ||| (r3 &&& v2)) v1) &&& 1)]) (σ' := σ2) (g := []) (by decide +kernel) rfl rfl ?_
      refine aw_icmp_ne (off := 6) (tgt := 93) (by decide +kernel) (by decide) (fun c1 => ?_) (fun c1 => ?_)
      · rw [if_neg c1] at h
        refine aw_seq [(.iinc 4 1, 3, (axI 1))] (pc' := 96) (L' := [some (aR 11 0 0), some (aI v1), some (aI v2), some (aI (v3 ||| (r3 &&& v2))), some (aI (v4 + 1))]) (stk' := []) (σ' := σ2) (g := []) (by decide +kernel) rfl rfl ?_
        refine aw_goto (off := (-38)) (tgt := 58) (by decide +kernel) (by decide) ?_
        refine aw_forget (L' := [some (aR 11 0 0), some (aI v1), some (aI v2), some (aI (v3 ||| (r3 &&& v2))), some (aI (v4 + 1))]) (lsub_s (lsub_s (lsub_s (lsub_s (lsub_s (lsub_0)))))) ?_
        exact ih v1 v2 (v3 ||| (r3 &&& v2)) (v4 + 1) σ2 _ h
      · rw [if_pos c1] at h
        refine aw_seq [(.iload 4, 2, ax0)] (pc' := 92) (L' := [some (aR 11 0 0), some (aI v1), some (aI v2), some (aI (v3 ||| (r3 &&& v2))), some (aI v4)]) (stk' := [aI v4]) (σ' := σ2) (g := []) (by decide +kernel) rfl rfl ?_
        cases h
        exact aw_iret rfl (by decide +kernel)
def f_X11_chain (v1 : Int32) (σ : Sg) : Option (Int32 × Sg) :=
  bnd (f_X8_told 2 v1 σ) fun r6 σ5 =>
  if r6 = 0 then (
    f_X11_chain_29 σ5
  ) else (
    grd (inb v1 8 && true) <|
    if (σ5.1 5 (ix v1)) = 0 then (
      bnd (f_X8_housesBy 2 0 0 σ5) fun r9 σ8 =>
      bnd (f_X8_mayGive 2 σ8) fun r12 σ11 =>
      f_X11_chain_58 FU v1 r9 r12 1 σ11
    ) else (
      f_X11_chain_29 σ5
    )
  )
set_option maxRecDepth 100000 in
set_option maxHeartbeats 4000000 in
theorem ok_X11_chain {κ : Kd} {v1 : Int32} {σ : Sg} {q : (Int32 × Sg)} (h : f_X11_chain v1 σ = some q) : AMet κ pX11_chain 3 [aR 11 0 0, aI v1] σ (some (aI q.1), q.2) := by
  unfold f_X11_chain at h
  refine amet_of okp_X11_chain [(false, aR 11 0 0), (false, aI v1)] (List.forall_mem_cons.mpr ⟨rfl, List.forall_mem_cons.mpr ⟨rfl, (fun _ hn => absurd hn List.not_mem_nil)⟩⟩) 3 rfl ?_
  show AW κ pX11_chain 3 (some (aI q.1), q.2) 0 [some (aR 11 0 0), some (aI v1), none, none, none] [] σ
  refine aw_seq [(.aload_n 0, 1, ax0), (.getfield 10, 3, (axF 11 0 (2, 1, 10, some 0))), (.getfield 68, 3, (axF 10 0 (2, 1, 8, some 0))), (.iload_n 1, 1, ax0)] (pc' := 8) (L' := [some (aR 11 0 0), some (aI v1), none, none, none]) (stk' := [aI v1, aR 8 0 2]) (σ' := σ) (g := []) (by decide +kernel) rfl rfl ?_
  obtain ⟨r6, σ5, h4, h⟩ := bnd_some h
  refine aw_cV (P' := pX8_told) (idx := 75) (d' := 1) (c := 8) (n := 0) (k := 2) [aI v1] [] (ov := (some (aI r6))) (stk2 := [aI r6]) okp_X8_told (by decide +kernel) ml_RX11_75 vok_X8_told (by decide) rfl nar_X8_told (by decide) rfl (Nat.le_of_ble_eq_true rfl) (ok_X8_told h4) rfl ?_
  refine aw_if_eq (off := 18) (tgt := 29) (by decide +kernel) (by decide) (fun c1 => ?_) (fun c1 => ?_)
  · rw [if_pos c1] at h
    refine aw_forget (L' := [none, none, none, none, none]) (lsub_n (lsub_n (lsub_n (lsub_n (lsub_n (lsub_0)))))) ?_
    exact ok_X11_chain_29 σ5 _ h
  · rw [if_neg c1] at h
    obtain ⟨hg, h⟩ := grd_some h
    refine aw_seq [(.aload_n 0, 1, ax0), (.getfield 10, 3, (axF 11 0 (2, 1, 10, some 0))), (.getfield 68, 3, (axF 10 0 (2, 1, 8, some 0))), (.getfield 200, 3, (axF 8 3 (2, 3, 13, some 8))), (.iload_n 1, 1, ax0), (.iaload, 1, ax0)] (pc' := 26) (L' := [some (aR 11 0 0), some (aI v1), none, none, none]) (stk' := [aI (σ5.1 5 (ix v1))]) (σ' := σ5) (g := [inb v1 8]) (by decide +kernel) rfl hg ?_
    refine aw_if_eq (off := 5) (tgt := 31) (by decide +kernel) (by decide) (fun c1 => ?_) (fun c1 => ?_)
    · rw [if_pos c1] at h
      refine aw_seq [(.aload_n 0, 1, ax0), (.getfield 10, 3, (axF 11 0 (2, 1, 10, some 0))), (.getfield 68, 3, (axF 10 0 (2, 1, 8, some 0))), (.iconst 0, 1, (axI 0)), (.iconst 0, 1, (axI 0))] (pc' := 40) (L' := [some (aR 11 0 0), some (aI v1), none, none, none]) (stk' := [aI 0, aI 0, aR 8 0 2]) (σ' := σ5) (g := []) (by decide +kernel) rfl rfl ?_
      obtain ⟨r9, σ8, h7, h⟩ := bnd_some h
      refine aw_cV (P' := pX8_housesBy) (idx := 206) (d' := 1) (c := 8) (n := 0) (k := 2) [aI 0, aI 0] [] (ov := (some (aI r9))) (stk2 := [aI r9]) okp_X8_housesBy (by decide +kernel) ml_RX11_206 vok_X8_housesBy (by decide) rfl nar_X8_housesBy (by decide) rfl (Nat.le_of_ble_eq_true rfl) (ok_X8_housesBy h7) rfl ?_
      refine aw_seq [(.istore_n 2, 1, ax0), (.aload_n 0, 1, ax0), (.getfield 10, 3, (axF 11 0 (2, 1, 10, some 0))), (.getfield 68, 3, (axF 10 0 (2, 1, 8, some 0)))] (pc' := 51) (L' := [some (aR 11 0 0), some (aI v1), some (aI r9), none, none]) (stk' := [aR 8 0 2]) (σ' := σ8) (g := []) (by decide +kernel) rfl rfl ?_
      obtain ⟨r12, σ11, h10, h⟩ := bnd_some h
      refine aw_cV (P' := pX8_mayGive) (idx := 280) (d' := 2) (c := 8) (n := 0) (k := 2) [] [] (ov := (some (aI r12))) (stk2 := [aI r12]) okp_X8_mayGive (by decide +kernel) ml_RX11_280 vok_X8_mayGive (by decide) rfl nar_X8_mayGive (by decide) rfl (Nat.le_of_ble_eq_true rfl) (ok_X8_mayGive h10) rfl ?_
      refine aw_seq [(.istore_n 3, 1, ax0), (.iconst 1, 1, (axI 1)), (.istore 4, 2, ax0)] (pc' := 58) (L' := [some (aR 11 0 0), some (aI v1), some (aI r9), some (aI r12), some (aI 1)]) (stk' := []) (σ' := σ11) (g := []) (by decide +kernel) rfl rfl ?_
      refine aw_forget (L' := [some (aR 11 0 0), some (aI v1), some (aI r9), some (aI r12), some (aI 1)]) (lsub_s (lsub_s (lsub_s (lsub_s (lsub_s (lsub_0)))))) ?_
      exact ok_X11_chain_58 FU v1 r9 r12 1 σ11 _ h
    · rw [if_neg c1] at h
      refine aw_forget (L' := [none, none, none, none, none]) (lsub_n (lsub_n (lsub_n (lsub_n (lsub_n (lsub_0)))))) ?_
      exact ok_X11_chain_29 σ5 _ h
def f_X5_greatest_48 (s : Nat)  (v2 : Int32) (σ : Sg) : Option (Int32 × Sg) :=
  some (v2, σ)
set_option maxRecDepth 100000 in
set_option maxHeartbeats 4000000 in
theorem ok_X5_greatest_48 {κ : Kd} {s : Nat}   : ∀ (v2 : Int32) (σ : Sg) (q : (Int32 × Sg)), f_X5_greatest_48 s v2 σ = some q → AW κ pX5_greatest 3 (some (aI q.1), q.2) 48 [none, none, some (aI v2), none, none, none] [] σ := by
  intro v2 σ q h
  unfold f_X5_greatest_48 at h
  refine aw_seq [(.iload_n 2, 1, ax0)] (pc' := 49) (L' := [none, none, some (aI v2), none, none, none]) (stk' := [aI v2]) (σ' := σ) (g := []) (by decide +kernel) rfl rfl ?_
  cases h
  exact aw_iret rfl (by decide +kernel)
def f_X5_greatest_7 (s : Nat)  : Nat → Int32 → Int32 → Int32 → Sg → Option (Int32 × Sg)
  | 0, _, _, _, _ => none
  | fu + 1, v2, v3, v4, σ =>
    if 8 ≤ v4 then (
      f_X5_greatest_48 s v2 σ
    ) else (
      if v3 = 0 then (
        f_X5_greatest_48 s v2 σ
      ) else (
        bnd (f_X5_group s v3 σ) fun r3 σ2 =>
        bnd (f_J6_bitCount_0f7a4 r3 σ2) fun r6 σ5 =>
        (f_X5_greatest_7 s fu) (imax v2 r6) (v3 &&& (r3 ^^^ (-1))) (v4 + 1) σ5
      )
    )
set_option maxRecDepth 100000 in
set_option maxHeartbeats 4000000 in
theorem ok_X5_greatest_7 {κ : Kd} {s : Nat}   : ∀ (fu : Nat) (v2 : Int32) (v3 : Int32) (v4 : Int32) (σ : Sg) (q : (Int32 × Sg)), f_X5_greatest_7 s fu v2 v3 v4 σ = some q → AW κ pX5_greatest 3 (some (aI q.1), q.2) 7 [some (aR 5 0 s), none, some (aI v2), some (aI v3), some (aI v4), none] [] σ := by
  intro fu
  induction fu with
  | zero =>
    intro v2 v3 v4 σ q h
    unfold f_X5_greatest_7 at h
    cases h
  | succ fu ih =>
    intro v2 v3 v4 σ q h
    unfold f_X5_greatest_7 at h
    refine aw_seq [(.iload 4, 2, ax0), (.bipush 8, 2, (axI 8))] (pc' := 11) (L' := [some (aR 5 0 s), none, some (aI v2), some (aI v3), some (aI v4), none]) (stk' := [aI 8, aI v4]) (σ' := σ) (g := []) (by decide +kernel) rfl rfl ?_
    refine aw_icmp_ge (off := 37) (tgt := 48) (by decide +kernel) (by decide) (fun c1 => ?_) (fun c1 => ?_)
    · rw [if_pos c1] at h
      refine aw_forget (L' := [none, none, some (aI v2), none, none, none]) (lsub_n (lsub_n (lsub_s (lsub_n (lsub_n (lsub_n (lsub_0))))))) ?_
      exact ok_X5_greatest_48 v2 σ _ h
    · rw [if_neg c1] at h
      refine aw_seq [(.iload_n 3, 1, ax0)] (pc' := 15) (L' := [some (aR 5 0 s), none, some (aI v2), some (aI v3), some (aI v4), none]) (stk' := [aI v3]) (σ' := σ) (g := []) (by decide +kernel) rfl rfl ?_
      refine aw_if_eq (off := 33) (tgt := 48) (by decide +kernel) (by decide) (fun c1 => ?_) (fun c1 => ?_)
      · rw [if_pos c1] at h
        refine aw_forget (L' := [none, none, some (aI v2), none, none, none]) (lsub_n (lsub_n (lsub_s (lsub_n (lsub_n (lsub_n (lsub_0))))))) ?_
        exact ok_X5_greatest_48 v2 σ _ h
      · rw [if_neg c1] at h
        refine aw_seq [(.aload_n 0, 1, ax0), (.iload_n 3, 1, ax0)] (pc' := 20) (L' := [some (aR 5 0 s), none, some (aI v2), some (aI v3), some (aI v4), none]) (stk' := [aI v3, aR 5 0 s]) (σ' := σ) (g := []) (by decide +kernel) rfl rfl ?_
        obtain ⟨r3, σ2, h1, h⟩ := bnd_some h
        refine aw_cV (P' := pX5_group) (idx := 33) (d' := 2) (c := 5) (n := 0) (k := s) [aI v3] [] (ov := (some (aI r3))) (stk2 := [aI r3]) okp_X5_group (by decide +kernel) ml_RX5_33 vok_X5_group (by decide) rfl nar_X5_group (by decide) rfl (Nat.le_of_ble_eq_true rfl) (ok_X5_group h1) rfl ?_
        refine aw_seq [(.istore 5, 2, ax0), (.iload_n 2, 1, ax0), (.iload 5, 2, ax0)] (pc' := 28) (L' := [some (aR 5 0 s), none, some (aI v2), some (aI v3), some (aI v4), some (aI r3)]) (stk' := [aI r3, aI v2]) (σ' := σ2) (g := []) (by decide +kernel) rfl rfl ?_
        obtain ⟨r6, σ5, h4, h⟩ := bnd_some h
        refine aw_cS (P' := pJ6_bitCount_0f7a4) (idx := 24) (d' := 1) [aI r3] [aI v2] (ov := (some (aI r6))) (stk2 := [aI r6, aI v2]) okp_J6_bitCount_0f7a4 (by decide +kernel) ml_RX5_24 tok_J6_bitCount_0f7a4 nar_J6_bitCount_0f7a4 (by decide) rfl (Nat.le_of_ble_eq_true rfl) (ok_J6_bitCount_0f7a4 h4) rfl ?_
        refine aw_imax (idx := 36) (by decide) (Nat.le_of_ble_eq_true rfl) jw_imax ml_RX5_36 (by decide +kernel) ?_
        refine aw_seq [(.istore_n 2, 1, ax0), (.iload_n 3, 1, ax0), (.iload 5, 2, ax0), (.iconst (-1), 1, (axI (-1))), (.ixor, 1, ax0), (.iand, 1, ax0), (.istore_n 3, 1, ax0), (.iinc 4 1, 3, (axI 1))] (pc' := 45) (L' := [some (aR 5 0 s), none, some (aI (imax v2 r6)), some (aI (v3 &&& (r3 ^^^ (-1)))), some (aI (v4 + 1)), some (aI r3)]) (stk' := []) (σ' := σ5) (g := []) (by decide +kernel) rfl rfl ?_
        refine aw_goto (off := (-38)) (tgt := 7) (by decide +kernel) (by decide) ?_
        refine aw_forget (L' := [some (aR 5 0 s), none, some (aI (imax v2 r6)), some (aI (v3 &&& (r3 ^^^ (-1)))), some (aI (v4 + 1)), none]) (lsub_s (lsub_n (lsub_s (lsub_s (lsub_s (lsub_n (lsub_0))))))) ?_
        exact ih (imax v2 r6) (v3 &&& (r3 ^^^ (-1))) (v4 + 1) σ5 _ h
def f_X5_greatest (s : Nat) (v1 : Int32) (σ : Sg) : Option (Int32 × Sg) :=
  f_X5_greatest_7 s FU 0 v1 0 σ
set_option maxRecDepth 100000 in
set_option maxHeartbeats 4000000 in
theorem ok_X5_greatest {κ : Kd} {s : Nat} {v1 : Int32} {σ : Sg} {q : (Int32 × Sg)} (h : f_X5_greatest s v1 σ = some q) : AMet κ pX5_greatest 3 [aR 5 0 s, aI v1] σ (some (aI q.1), q.2) := by
  unfold f_X5_greatest at h
  refine amet_of okp_X5_greatest [(false, aR 5 0 s), (false, aI v1)] (List.forall_mem_cons.mpr ⟨rfl, List.forall_mem_cons.mpr ⟨rfl, (fun _ hn => absurd hn List.not_mem_nil)⟩⟩) 4 rfl ?_
  show AW κ pX5_greatest 3 (some (aI q.1), q.2) 0 [some (aR 5 0 s), some (aI v1), none, none, none, none] [] σ
  refine aw_seq [(.iconst 0, 1, (axI 0)), (.istore_n 2, 1, ax0), (.iload_n 1, 1, ax0), (.istore_n 3, 1, ax0), (.iconst 0, 1, (axI 0)), (.istore 4, 2, ax0)] (pc' := 7) (L' := [some (aR 5 0 s), some (aI v1), some (aI 0), some (aI v1), some (aI 0), none]) (stk' := []) (σ' := σ) (g := []) (by decide +kernel) rfl rfl ?_
  refine aw_forget (L' := [some (aR 5 0 s), none, some (aI 0), some (aI v1), some (aI 0), none]) (lsub_s (lsub_n (lsub_s (lsub_s (lsub_s (lsub_n (lsub_0))))))) ?_
  exact ok_X5_greatest_7 FU 0 v1 0 σ _ h
def f_X8_all (t : Nat) (σ : Sg) : Option (Int32 × Sg) :=
  some (((shl 1 (σ.1 t 0)) - 1), σ)
set_option maxRecDepth 100000 in
set_option maxHeartbeats 4000000 in
theorem ok_X8_all {κ : Kd} {t : Nat} {σ : Sg} {q : (Int32 × Sg)} (h : f_X8_all t σ = some q) : AMet κ pX8_all 1 [aR 8 0 t] σ (some (aI q.1), q.2) := by
  unfold f_X8_all at h
  refine amet_of okp_X8_all [(false, aR 8 0 t)] (List.forall_mem_cons.mpr ⟨rfl, (fun _ hn => absurd hn List.not_mem_nil)⟩) 0 rfl ?_
  show AW κ pX8_all 1 (some (aI q.1), q.2) 0 [some (aR 8 0 t)] [] σ
  refine aw_seq [(.iconst 1, 1, (axI 1)), (.aload_n 0, 1, ax0), (.getfield 31, 3, (axF 8 0 (0, 0, 0, none))), (.ishl, 1, ax0), (.iconst 1, 1, (axI 1)), (.isub, 1, ax0)] (pc' := 8) (L' := [some (aR 8 0 t)]) (stk' := [aI ((shl 1 (σ.1 t 0)) - 1)]) (σ' := σ) (g := []) (by decide +kernel) rfl rfl ?_
  cases h
  exact aw_iret rfl (by decide +kernel)
def f_X11_stoneSet_96  (rec_29 : Int32 → Int32 → Int32 → Int32 → Int32 → Sg → Option (Int32 × Sg)) (v1 : Int32) (v2 : Int32) (v3 : Int32) (v4 : Int32) (v5 : Int32) (σ : Sg) : Option (Int32 × Sg) :=
  rec_29 v1 v2 v3 v4 (v5 + 1) σ
set_option maxRecDepth 100000 in
set_option maxHeartbeats 4000000 in
theorem ok_X11_stoneSet_96 {κ : Kd}   {rec_29 : Int32 → Int32 → Int32 → Int32 → Int32 → Sg → Option (Int32 × Sg)} (hrec_29 : ∀ (v1 : Int32) (v2 : Int32) (v3 : Int32) (v4 : Int32) (v5 : Int32) (σ : Sg) (q : (Int32 × Sg)), rec_29 v1 v2 v3 v4 v5 σ = some q → AW κ pX11_stoneSet 4 (some (aI q.1), q.2) 29 [some (aR 11 0 0), some (aI v1), some (aI v2), some (aI v3), some (aI v4), some (aI v5), none, none] [] σ) : ∀ (v1 : Int32) (v2 : Int32) (v3 : Int32) (v4 : Int32) (v5 : Int32) (σ : Sg) (q : (Int32 × Sg)), f_X11_stoneSet_96 rec_29 v1 v2 v3 v4 v5 σ = some q → AW κ pX11_stoneSet 4 (some (aI q.1), q.2) 96 [some (aR 11 0 0), some (aI v1), some (aI v2), some (aI v3), some (aI v4), some (aI v5), none, none] [] σ := by
  intro v1 v2 v3 v4 v5 σ q h
  unfold f_X11_stoneSet_96 at h
  refine aw_seq [(.iinc 5 1, 3, (axI 1))] (pc' := 99) (L' := [some (aR 11 0 0), some (aI v1), some (aI v2), some (aI v3), some (aI v4), some (aI (v5 + 1)), none, none]) (stk' := []) (σ' := σ) (g := []) (by decide +kernel) rfl rfl ?_
  refine aw_goto (off := (-70)) (tgt := 29) (by decide +kernel) (by decide) ?_
  refine aw_forget (L' := [some (aR 11 0 0), some (aI v1), some (aI v2), some (aI v3), some (aI v4), some (aI (v5 + 1)), none, none]) (lsub_s (lsub_s (lsub_s (lsub_s (lsub_s (lsub_s (lsub_n (lsub_n (lsub_0))))))))) ?_
  exact hrec_29 v1 v2 v3 v4 (v5 + 1) σ _ h
def f_X11_stoneSet_89  (rec_29 : Int32 → Int32 → Int32 → Int32 → Int32 → Sg → Option (Int32 × Sg)) (v1 : Int32) (v2 : Int32) (v5 : Int32) (v7 : Int32) (σ : Sg) : Option (Int32 × Sg) :=
  f_X11_stoneSet_96 rec_29 v1 v2 v5 v7 v5 σ
set_option maxRecDepth 100000 in
set_option maxHeartbeats 4000000 in
theorem ok_X11_stoneSet_89 {κ : Kd}   {rec_29 : Int32 → Int32 → Int32 → Int32 → Int32 → Sg → Option (Int32 × Sg)} (hrec_29 : ∀ (v1 : Int32) (v2 : Int32) (v3 : Int32) (v4 : Int32) (v5 : Int32) (σ : Sg) (q : (Int32 × Sg)), rec_29 v1 v2 v3 v4 v5 σ = some q → AW κ pX11_stoneSet 4 (some (aI q.1), q.2) 29 [some (aR 11 0 0), some (aI v1), some (aI v2), some (aI v3), some (aI v4), some (aI v5), none, none] [] σ) : ∀ (v1 : Int32) (v2 : Int32) (v5 : Int32) (v7 : Int32) (σ : Sg) (q : (Int32 × Sg)), f_X11_stoneSet_89 rec_29 v1 v2 v5 v7 σ = some q → AW κ pX11_stoneSet 4 (some (aI q.1), q.2) 89 [some (aR 11 0 0), some (aI v1), some (aI v2), none, none, some (aI v5), none, some (aI v7)] [] σ := by
  intro v1 v2 v5 v7 σ q h
  unfold f_X11_stoneSet_89 at h
  refine aw_seq [(.iload 5, 2, ax0), (.istore_n 3, 1, ax0), (.iload 7, 2, ax0), (.istore 4, 2, ax0)] (pc' := 96) (L' := [some (aR 11 0 0), some (aI v1), some (aI v2), some (aI v5), some (aI v7), some (aI v5), none, some (aI v7)]) (stk' := []) (σ' := σ) (g := []) (by decide +kernel) rfl rfl ?_
  refine aw_forget (L' := [some (aR 11 0 0), some (aI v1), some (aI v2), some (aI v5), some (aI v7), some (aI v5), none, none]) (lsub_s (lsub_s (lsub_s (lsub_s (lsub_s (lsub_s (lsub_n (lsub_n (lsub_0))))))))) ?_
  exact ok_X11_stoneSet_96 hrec_29 v1 v2 v5 v7 v5 σ _ h
def f_X11_stoneSet_29   : Nat → Int32 → Int32 → Int32 → Int32 → Int32 → Sg → Option (Int32 × Sg)
  | 0, _, _, _, _, _, _ => none
  | fu + 1, v1, v2, v3, v4, v5, σ =>
    if v2 < v5 then (
      some (v3, σ)
    ) else (
      bnd (f_J6_bitCount_0f7a4 v5 σ) fun r3 σ2 =>
      if v1 < r3 then (
        f_X11_stoneSet_96 (f_X11_stoneSet_29 fu) v1 v2 v3 v4 v5 σ2
      ) else (
        bnd (f_X5_greatest 8 (v2 &&& (v5 ^^^ (-1))) σ2) fun r6 σ5 =>
        if r6 < v4 then (
          f_X11_stoneSet_89 (f_X11_stoneSet_29 fu) v1 v2 v5 r6 σ5
        ) else (
          if r6 = v4 then (
            bnd (f_J6_bitCount_0f7a4 v3 σ5) fun r9 σ8 =>
            if r9 ≤ r3 then (
              f_X11_stoneSet_96 (f_X11_stoneSet_29 fu) v1 v2 v3 v4 v5 σ8
            ) else (
              f_X11_stoneSet_89 (f_X11_stoneSet_29 fu) v1 v2 v5 r6 σ8
            )
          ) else (
            f_X11_stoneSet_96 (f_X11_stoneSet_29 fu) v1 v2 v3 v4 v5 σ5
          )
        )
      )
    )
set_option maxRecDepth 100000 in
set_option maxHeartbeats 4000000 in
theorem ok_X11_stoneSet_29 {κ : Kd}    : ∀ (fu : Nat) (v1 : Int32) (v2 : Int32) (v3 : Int32) (v4 : Int32) (v5 : Int32) (σ : Sg) (q : (Int32 × Sg)), f_X11_stoneSet_29 fu v1 v2 v3 v4 v5 σ = some q → AW κ pX11_stoneSet 4 (some (aI q.1), q.2) 29 [some (aR 11 0 0), some (aI v1), some (aI v2), some (aI v3), some (aI v4), some (aI v5), none, none] [] σ := by
  intro fu
  induction fu with
  | zero =>
    intro v1 v2 v3 v4 v5 σ q h
    unfold f_X11_stoneSet_29 at h
    cases h
  | succ fu ih =>
    intro v1 v2 v3 v4 v5 σ q h
    unfold f_X11_stoneSet_29 at h
    refine aw_seq [(.iload 5, 2, ax0), (.iload_n 2, 1, ax0)] (pc' := 32) (L' := [some (aR 11 0 0), some (aI v1), some (aI v2), some (aI v3), some (aI v4), some (aI v5), none, none]) (stk' := [aI v2, aI v5]) (σ' := σ) (g := []) (by decide +kernel) rfl rfl ?_
    refine aw_icmp_gt (off := 70) (tgt := 102) (by decide +kernel) (by decide) (fun c1 => ?_) (fun c1 => ?_)
    · rw [if_pos c1] at h
      refine aw_seq [(.iload_n 3, 1, ax0)] (pc' := 103) (L' := [some (aR 11 0 0), some (aI v1), some (aI v2), some (aI v3), some (aI v4), some (aI v5), none, none]) (stk' := [aI v3]) (σ' := σ) (g := []) (by decide +kernel) rfl rfl ?_
      cases h
      exact aw_iret rfl (by decide +kernel)
    · rw [if_neg c1] at h
      refine aw_seq [(.iload 5, 2, ax0)] (pc' := 37) (L' := [some (aR 11 0 0), some (aI v1), some (aI v2), some (aI v3), some (aI v4), some (aI v5), none, none]) (stk' := [aI v5]) (σ' := σ) (g := []) (by decide +kernel) rfl rfl ?_
      obtain ⟨r3, σ2, h1, h⟩ := bnd_some h
      refine aw_cS (P' := pJ6_bitCount_0f7a4) (idx := 241) (d' := 1) [aI v5] [] (ov := (some (aI r3))) (stk2 := [aI r3]) okp_J6_bitCount_0f7a4 (by decide +kernel) ml_RX11_241 tok_J6_bitCount_0f7a4 nar_J6_bitCount_0f7a4 (by decide) rfl (Nat.le_of_ble_eq_true rfl) (ok_J6_bitCount_0f7a4 h1) rfl ?_
      refine aw_seq [(.istore 6, 2, ax0), (.iload 6, 2, ax0), (.iload_n 1, 1, ax0)] (pc' := 45) (L' := [some (aR 11 0 0), some (aI v1), some (aI v2), some (aI v3), some (aI v4), some (aI v5), some (aI r3), none]) (stk' := [aI v1, aI r3]) (σ' := σ2) (g := []) (by decide +kernel) rfl rfl ?_
      refine aw_icmp_gt (off := 51) (tgt := 96) (by decide +kernel) (by decide) (fun c1 => ?_) (fun c1 => ?_)
      · rw [if_pos c1] at h
        refine aw_forget (L' := [some (aR 11 0 0), some (aI v1), some (aI v2), some (aI v3), some (aI v4), some (aI v5), none, none]) (lsub_s (lsub_s (lsub_s (lsub_s (lsub_s (lsub_s (lsub_n (lsub_n (lsub_0))))))))) ?_
        exact ok_X11_stoneSet_96 ih v1 v2 v3 v4 v5 σ2 _ h
      · rw [if_neg c1] at h
        refine aw_seq [(.aload_n 0, 1, ax0), (.getfield 10, 3, (axF 11 0 (2, 1, 10, some 0))), (.getfield 83, 3, (axF 10 1 (2, 7, 5, some 0))), (.iload_n 2, 1, ax0), (.iload 5, 2, ax0), (.iconst (-1), 1, (axI (-1))), (.ixor, 1, ax0), (.iand, 1, ax0)] (pc' := 61) (L' := [some (aR 11 0 0), some (aI v1), some (aI v2), some (aI v3), some (aI v4), some (aI v5), some (aI r3), none]) (stk' := [aI (v2 &&& (v5 ^^^ (-1))), aR 5 0 8]) (σ' := σ2) (g := []) (by decide +kernel) rfl rfl ?_
        obtain ⟨r6, σ5, h4, h⟩ := bnd_some h
        refine aw_cV (P' := pX5_greatest) (idx := 292) (d' := 3) (c := 5) (n := 0) (k := 8) [aI (v2 &&& (v5 ^^^ (-1)))] [] (ov := (some (aI r6))) (stk2 := [aI r6]) okp_X5_greatest (by decide +kernel) ml_RX11_292 vok_X5_greatest (by decide) rfl nar_X5_greatest (by decide) rfl (Nat.le_of_ble_eq_true rfl) (ok_X5_greatest h4) rfl ?_
        refine aw_seq [(.istore 7, 2, ax0), (.iload 7, 2, ax0), (.iload 4, 2, ax0)] (pc' := 70) (L' := [some (aR 11 0 0), some (aI v1), some (aI v2), some (aI v3), some (aI v4), some (aI v5), some (aI r3), some (aI r6)]) (stk' := [aI v4, aI r6]) (σ' := σ5) (g := []) (by decide +kernel) rfl rfl ?_
        refine aw_icmp_lt (off := 19) (tgt := 89) (by decide +kernel) (by decide) (fun c1 => ?_) (fun c1 => ?_)
        · rw [if_pos c1] at h
          refine aw_forget (L' := [some (aR 11 0 0), some (aI v1), some (aI v2), none, none, some (aI v5), none, some (aI r6)]) (lsub_s (lsub_s (lsub_s (lsub_n (lsub_n (lsub_s (lsub_n (lsub_s (lsub_0))))))))) ?_
          exact ok_X11_stoneSet_89 ih v1 v2 v5 r6 σ5 _ h
        · rw [if_neg c1] at h
          refine aw_seq [(.iload 7, 2, ax0), (.iload 4, 2, ax0)] (pc' := 77) (L' := [some (aR 11 0 0), some (aI v1), some (aI v2), some (aI v3), some (aI v4), some (aI v5), some (aI r3), some (aI r6)]) (stk' := [aI v4, aI r6]) (σ' := σ5) (g := []) (by decide +kernel) rfl rfl ?_
          refine aw_icmp_ne (off := 19) (tgt := 96) (by decide +kernel) (by decide) (fun c1 => ?_) (fun c1 => ?_)
          · rw [if_neg c1] at h
            refine aw_forget (L' := [some (aR 11 0 0), some (aI v1), some (aI v2), some (aI v3), some (aI v4), some (aI v5), none, none]) (lsub_s (lsub_s (lsub_s (lsub_s (lsub_s (lsub_s (lsub_n (lsub_n (lsub_0))))))))) ?_
            exact ok_X11_stoneSet_96 ih v1 v2 v3 v4 v5 σ5 _ h
          · rw [if_pos c1] at h
            refine aw_seq [(.iload 6, 2, ax0), (.iload_n 3, 1, ax0)] (pc' := 83) (L' := [some (aR 11 0 0), some (aI v1), some (aI v2), some (aI v3), some (aI v4), some (aI v5), some (aI r3), some (aI r6)]) (stk' := [aI v3, aI r3]) (σ' := σ5) (g := []) (by decide +kernel) rfl rfl ?_
            obtain ⟨r9, σ8, h7, h⟩ := bnd_some h
            refine aw_cS (P' := pJ6_bitCount_0f7a4) (idx := 241) (d' := 1) [aI v3] [aI r3] (ov := (some (aI r9))) (stk2 := [aI r9, aI r3]) okp_J6_bitCount_0f7a4 (by decide +kernel) ml_RX11_241 tok_J6_bitCount_0f7a4 nar_J6_bitCount_0f7a4 (by decide) rfl (Nat.le_of_ble_eq_true rfl) (ok_J6_bitCount_0f7a4 h7) rfl ?_
            refine aw_icmp_ge (off := 10) (tgt := 96) (by decide +kernel) (by decide) (fun c1 => ?_) (fun c1 => ?_)
            · rw [if_pos c1] at h
              refine aw_forget (L' := [some (aR 11 0 0), some (aI v1), some (aI v2), some (aI v3), some (aI v4), some (aI v5), none, none]) (lsub_s (lsub_s (lsub_s (lsub_s (lsub_s (lsub_s (lsub_n (lsub_n (lsub_0))))))))) ?_
              exact ok_X11_stoneSet_96 ih v1 v2 v3 v4 v5 σ8 _ h
            · rw [if_neg c1] at h
              refine aw_forget (L' := [some (aR 11 0 0), some (aI v1), some (aI v2), none, none, some (aI v5), none, some (aI r6)]) (lsub_s (lsub_s (lsub_s (lsub_n (lsub_n (lsub_s (lsub_n (lsub_s (lsub_0))))))))) ?_
              exact ok_X11_stoneSet_89 ih v1 v2 v5 r6 σ8 _ h
def f_X11_stoneSet (v1 : Int32) (σ : Sg) : Option (Int32 × Sg) :=
  bnd (f_X8_all 2 σ) fun r12 σ11 =>
  bnd (f_X5_greatest 8 r12 σ11) fun r15 σ14 =>
  f_X11_stoneSet_29 FU v1 r12 0 r15 1 σ14
set_option maxRecDepth 100000 in
set_option maxHeartbeats 4000000 in
theorem ok_X11_stoneSet {κ : Kd} {v1 : Int32} {σ : Sg} {q : (Int32 × Sg)} (h : f_X11_stoneSet v1 σ = some q) : AMet κ pX11_stoneSet 4 [aR 11 0 0, aI v1] σ (some (aI q.1), q.2) := by
  unfold f_X11_stoneSet at h
  refine amet_of okp_X11_stoneSet [(false, aR 11 0 0), (false, aI v1)] (List.forall_mem_cons.mpr ⟨rfl, List.forall_mem_cons.mpr ⟨rfl, (fun _ hn => absurd hn List.not_mem_nil)⟩⟩) 6 rfl ?_
  show AW κ pX11_stoneSet 4 (some (aI q.1), q.2) 0 [some (aR 11 0 0), some (aI v1), none, none, none, none, none, none] [] σ
  refine aw_seq [(.aload_n 0, 1, ax0), (.getfield 10, 3, (axF 11 0 (2, 1, 10, some 0))), (.getfield 68, 3, (axF 10 0 (2, 1, 8, some 0)))] (pc' := 7) (L' := [some (aR 11 0 0), some (aI v1), none, none, none, none, none, none]) (stk' := [aR 8 0 2]) (σ' := σ) (g := []) (by decide +kernel) rfl rfl ?_
  obtain ⟨r12, σ11, h10, h⟩ := bnd_some h
  refine aw_cV (P' := pX8_all) (idx := 289) (d' := 1) (c := 8) (n := 0) (k := 2) [] [] (ov := (some (aI r12))) (stk2 := [aI r12]) okp_X8_all (by decide +kernel) ml_RX11_289 vok_X8_all (by decide) rfl nar_X8_all (by decide) rfl (Nat.le_of_ble_eq_true rfl) (ok_X8_all h10) rfl ?_
  refine aw_seq [(.istore_n 2, 1, ax0), (.iconst 0, 1, (axI 0)), (.istore_n 3, 1, ax0), (.aload_n 0, 1, ax0), (.getfield 10, 3, (axF 11 0 (2, 1, 10, some 0))), (.getfield 83, 3, (axF 10 1 (2, 7, 5, some 0))), (.iload_n 2, 1, ax0)] (pc' := 21) (L' := [some (aR 11 0 0), some (aI v1), some (aI r12), some (aI 0), none, none, none, none]) (stk' := [aI r12, aR 5 0 8]) (σ' := σ11) (g := []) (by decide +kernel) rfl rfl ?_
  obtain ⟨r15, σ14, h13, h⟩ := bnd_some h
  refine aw_cV (P' := pX5_greatest) (idx := 292) (d' := 3) (c := 5) (n := 0) (k := 8) [aI r12] [] (ov := (some (aI r15))) (stk2 := [aI r15]) okp_X5_greatest (by decide +kernel) ml_RX11_292 vok_X5_greatest (by decide) rfl nar_X5_greatest (by decide) rfl (Nat.le_of_ble_eq_true rfl) (ok_X5_greatest h13) rfl ?_
  refine aw_seq [(.istore 4, 2, ax0), (.iconst 1, 1, (axI 1)), (.istore 5, 2, ax0)] (pc' := 29) (L' := [some (aR 11 0 0), some (aI v1), some (aI r12), some (aI 0), some (aI r15), some (aI 1), none, none]) (stk' := []) (σ' := σ14) (g := []) (by decide +kernel) rfl rfl ?_
  refine aw_forget (L' := [some (aR 11 0 0), some (aI v1), some (aI r12), some (aI 0), some (aI r15), some (aI 1), none, none]) (lsub_s (lsub_s (lsub_s (lsub_s (lsub_s (lsub_s (lsub_n (lsub_n (lsub_0))))))))) ?_
  exact ok_X11_stoneSet_29 FU v1 r12 0 r15 1 σ14 _ h
def f_X11_stone_50   (s0 : Int32) (σ : Sg) : Option (Int32 × Sg) :=
  some (s0, σ)
set_option maxRecDepth 100000 in
set_option maxHeartbeats 4000000 in
theorem ok_X11_stone_50 {κ : Kd}    : ∀ (s0 : Int32) (σ : Sg) (q : (Int32 × Sg)), f_X11_stone_50 s0 σ = some q → AW κ pX11_stone 5 (some (aI q.1), q.2) 50 [none, none, none, none] [aI s0] σ := by
  intro s0 σ q h
  unfold f_X11_stone_50 at h
  cases h
  exact aw_iret rfl (by decide +kernel)
def f_X11_stone (v1 : Int32) (v2 : Int32) (σ : Sg) : Option (Int32 × Sg) :=
  bnd (f_X11_within v1 0 8 σ) fun r3 σ2 =>
  if r3 = 0 then (
    some ((-1), σ2)
  ) else (
    bnd (f_X11_stoneSet v1 σ2) fun r6 σ5 =>
    if v2 = 0 then (
      f_X11_stone_50 r6 σ5
    ) else (
      bnd (f_X8_all 2 σ5) fun r9 σ8 =>
      bnd (f_X5_greatest 8 (r9 &&& (r6 ^^^ (-1))) σ8) fun r12 σ11 =>
      f_X11_stone_50 r12 σ11
    )
  )
set_option maxRecDepth 100000 in
set_option maxHeartbeats 4000000 in
theorem ok_X11_stone {κ : Kd} {v1 : Int32} {v2 : Int32} {σ : Sg} {q : (Int32 × Sg)} (h : f_X11_stone v1 v2 σ = some q) : AMet κ pX11_stone 5 [aR 11 0 0, aI v1, aI v2] σ (some (aI q.1), q.2) := by
  unfold f_X11_stone at h
  refine amet_of okp_X11_stone [(false, aR 11 0 0), (false, aI v1), (false, aI v2)] (List.forall_mem_cons.mpr ⟨rfl, List.forall_mem_cons.mpr ⟨rfl, List.forall_mem_cons.mpr ⟨rfl, (fun _ hn => absurd hn List.not_mem_nil)⟩⟩⟩) 1 rfl ?_
  show AW κ pX11_stone 5 (some (aI q.1), q.2) 0 [some (aR 11 0 0), some (aI v1), some (aI v2), none] [] σ
  refine aw_seq [(.iload_n 1, 1, ax0), (.iconst 0, 1, (axI 0)), (.bipush 8, 2, (axI 8))] (pc' := 4) (L' := [some (aR 11 0 0), some (aI v1), some (aI v2), none]) (stk' := [aI 8, aI 0, aI v1]) (σ' := σ) (g := []) (by decide +kernel) rfl rfl ?_
  obtain ⟨r3, σ2, h1, h⟩ := bnd_some h
  refine aw_cS (P' := pX11_within) (idx := 79) (d' := 1) [aI v1, aI 0, aI 8] [] (ov := (some (aI r3))) (stk2 := [aI r3]) okp_X11_within (by decide +kernel) ml_RX11_79 tok_X11_within nar_X11_within (by decide) rfl (Nat.le_of_ble_eq_true rfl) (ok_X11_within h1) rfl ?_
  refine aw_if_ne (off := 5) (tgt := 12) (by decide +kernel) (by decide) (fun c1 => ?_) (fun c1 => ?_)
  · rw [if_neg c1] at h
    refine aw_seq [(.aload_n 0, 1, ax0), (.iload_n 1, 1, ax0)] (pc' := 14) (L' := [some (aR 11 0 0), some (aI v1), some (aI v2), none]) (stk' := [aI v1, aR 11 0 0]) (σ' := σ2) (g := []) (by decide +kernel) rfl rfl ?_
    obtain ⟨r6, σ5, h4, h⟩ := bnd_some h
    refine aw_cV (P' := pX11_stoneSet) (idx := 286) (d' := 4) (c := 11) (n := 0) (k := 0) [aI v1] [] (ov := (some (aI r6))) (stk2 := [aI r6]) okp_X11_stoneSet (by decide +kernel) ml_RX11_286 vok_X11_stoneSet (by decide) rfl nar_X11_stoneSet (by decide) rfl (Nat.le_of_ble_eq_true rfl) (ok_X11_stoneSet h4) rfl ?_
    refine aw_seq [(.istore_n 3, 1, ax0), (.iload_n 2, 1, ax0)] (pc' := 19) (L' := [some (aR 11 0 0), some (aI v1), some (aI v2), some (aI r6)]) (stk' := [aI v2]) (σ' := σ5) (g := []) (by decide +kernel) rfl rfl ?_
    refine aw_if_eq (off := 30) (tgt := 49) (by decide +kernel) (by decide) (fun c1 => ?_) (fun c1 => ?_)
    · rw [if_pos c1] at h
      refine aw_seq [(.iload_n 3, 1, ax0)] (pc' := 50) (L' := [some (aR 11 0 0), some (aI v1), some (aI v2), some (aI r6)]) (stk' := [aI r6]) (σ' := σ5) (g := []) (by decide +kernel) rfl rfl ?_
      refine aw_forget (L' := [none, none, none, none]) (lsub_n (lsub_n (lsub_n (lsub_n (lsub_0))))) ?_
      exact ok_X11_stone_50 r6 σ5 _ h
    · rw [if_neg c1] at h
      refine aw_seq [(.aload_n 0, 1, ax0), (.getfield 10, 3, (axF 11 0 (2, 1, 10, some 0))), (.getfield 83, 3, (axF 10 1 (2, 7, 5, some 0))), (.aload_n 0, 1, ax0), (.getfield 10, 3, (axF 11 0 (2, 1, 10, some 0))), (.getfield 68, 3, (axF 10 0 (2, 1, 8, some 0)))] (pc' := 36) (L' := [some (aR 11 0 0), some (aI v1), some (aI v2), some (aI r6)]) (stk' := [aR 8 0 2, aR 5 0 8]) (σ' := σ5) (g := []) (by decide +kernel) rfl rfl ?_
      obtain ⟨r9, σ8, h7, h⟩ := bnd_some h
      refine aw_cV (P' := pX8_all) (idx := 289) (d' := 1) (c := 8) (n := 0) (k := 2) [] [aR 5 0 8] (ov := (some (aI r9))) (stk2 := [aI r9, aR 5 0 8]) okp_X8_all (by decide +kernel) ml_RX11_289 vok_X8_all (by decide) rfl nar_X8_all (by decide) rfl (Nat.le_of_ble_eq_true rfl) (ok_X8_all h7) rfl ?_
      refine aw_seq [(.iload_n 3, 1, ax0), (.iconst (-1), 1, (axI (-1))), (.ixor, 1, ax0), (.iand, 1, ax0)] (pc' := 43) (L' := [some (aR 11 0 0), some (aI v1), some (aI v2), some (aI r6)]) (stk' := [aI (r9 &&& (r6 ^^^ (-1))), aR 5 0 8]) (σ' := σ8) (g := []) (by decide +kernel) rfl rfl ?_
      obtain ⟨r12, σ11, h10, h⟩ := bnd_some h
      refine aw_cV (P' := pX5_greatest) (idx := 292) (d' := 3) (c := 5) (n := 0) (k := 8) [aI (r9 &&& (r6 ^^^ (-1)))] [] (ov := (some (aI r12))) (stk2 := [aI r12]) okp_X5_greatest (by decide +kernel) ml_RX11_292 vok_X5_greatest (by decide) rfl nar_X5_greatest (by decide) rfl (Nat.le_of_ble_eq_true rfl) (ok_X5_greatest h10) rfl ?_
      refine aw_goto (off := 4) (tgt := 50) (by decide +kernel) (by decide) ?_
      refine aw_forget (L' := [none, none, none, none]) (lsub_n (lsub_n (lsub_n (lsub_n (lsub_0))))) ?_
      exact ok_X11_stone_50 r12 σ11 _ h
  · rw [if_pos c1] at h
    refine aw_seq [(.iconst (-1), 1, (axI (-1)))] (pc' := 11) (L' := [some (aR 11 0 0), some (aI v1), some (aI v2), none]) (stk' := [aI (-1)]) (σ' := σ2) (g := []) (by decide +kernel) rfl rfl ?_
    cases h
    exact aw_iret rfl (by decide +kernel)
def f_X11_seen_51    (σ : Sg) : Option (Int32 × Sg) :=
  some ((-2), σ)
set_option maxRecDepth 100000 in
set_option maxHeartbeats 4000000 in
theorem ok_X11_seen_51 {κ : Kd}    : ∀  (σ : Sg) (q : (Int32 × Sg)), f_X11_seen_51  σ = some q → AW κ pX11_seen 2 (some (aI q.1), q.2) 51 [none, none, none, none] [] σ := by
  intro  σ q h
  unfold f_X11_seen_51 at h
  refine aw_seq [(.bipush (-2), 2, (axI (-2)))] (pc' := 53) (L' := [none, none, none, none]) (stk' := [aI (-2)]) (σ' := σ) (g := []) (by decide +kernel) rfl rfl ?_
  cases h
  exact aw_iret rfl (by decide +kernel)
def f_X11_seen (v1 : Int32) (v2 : Int32) (v3 : Int32) (σ : Sg) : Option (Int32 × Sg) :=
  if v1 = (-1) then (
    ltσ (wI σ 1 11 0) fun σ15 =>
    some (0, σ15)
  ) else (
    bnd (f_X8_told 2 v1 σ) fun r3 σ2 =>
    if r3 = 0 then (
      f_X11_seen_51 σ2
    ) else (
      bnd (f_X11_within v2 0 99 σ2) fun r6 σ5 =>
      if r6 = 0 then (
        f_X11_seen_51 σ5
      ) else (
        if (σ5.1 1 11) < 8 then (
          grd (inb (σ5.1 1 11) 8 && true) <|
          ltσ (wI σ5 16 (ix (σ5.1 1 11)) v1) fun σ7 =>
          grd (inb (σ7.1 1 11) 8 && true) <|
          ltσ (wI σ7 17 (ix (σ7.1 1 11)) v2) fun σ9 =>
          grd ((inb (σ9.1 1 11) 8 && bz v3) && true) <|
          ltσ (wI σ9 18 (ix (σ9.1 1 11)) v3) fun σ11 =>
          ltσ (wI σ11 1 11 ((σ11.1 1 11) + 1)) fun σ13 =>
          some ((σ13.1 1 11), σ13)
        ) else (
          f_X11_seen_51 σ5
        )
      )
    )
  )
set_option maxRecDepth 100000 in
set_option maxHeartbeats 4000000 in
theorem ok_X11_seen {κ : Kd} {v1 : Int32} {v2 : Int32} {v3 : Int32} {σ : Sg} {q : (Int32 × Sg)} (h : f_X11_seen v1 v2 v3 σ = some q) : AMet κ pX11_seen 2 [aR 11 0 0, aI v1, aI v2, aI v3] σ (some (aI q.1), q.2) := by
  unfold f_X11_seen at h
  refine amet_of okp_X11_seen [(false, aR 11 0 0), (false, aI v1), (false, aI v2), (false, aI v3)] (List.forall_mem_cons.mpr ⟨rfl, List.forall_mem_cons.mpr ⟨rfl, List.forall_mem_cons.mpr ⟨rfl, List.forall_mem_cons.mpr ⟨rfl, (fun _ hn => absurd hn List.not_mem_nil)⟩⟩⟩⟩) 0 rfl ?_
  show AW κ pX11_seen 2 (some (aI q.1), q.2) 0 [some (aR 11 0 0), some (aI v1), some (aI v2), some (aI v3)] [] σ
  refine aw_seq [(.iload_n 1, 1, ax0), (.iconst (-1), 1, (axI (-1)))] (pc' := 2) (L' := [some (aR 11 0 0), some (aI v1), some (aI v2), some (aI v3)]) (stk' := [aI (-1), aI v1]) (σ' := σ) (g := []) (by decide +kernel) rfl rfl ?_
  refine aw_icmp_ne (off := 13) (tgt := 15) (by decide +kernel) (by decide) (fun c1 => ?_) (fun c1 => ?_)
  · rw [if_neg c1] at h
    refine aw_seq [(.aload_n 0, 1, ax0), (.getfield 10, 3, (axF 11 0 (2, 1, 10, some 0))), (.getfield 68, 3, (axF 10 0 (2, 1, 8, some 0))), (.iload_n 1, 1, ax0)] (pc' := 23) (L' := [some (aR 11 0 0), some (aI v1), some (aI v2), some (aI v3)]) (stk' := [aI v1, aR 8 0 2]) (σ' := σ) (g := []) (by decide +kernel) rfl rfl ?_
    obtain ⟨r3, σ2, h1, h⟩ := bnd_some h
    refine aw_cV (P' := pX8_told) (idx := 75) (d' := 1) (c := 8) (n := 0) (k := 2) [aI v1] [] (ov := (some (aI r3))) (stk2 := [aI r3]) okp_X8_told (by decide +kernel) ml_RX11_75 vok_X8_told (by decide) rfl nar_X8_told (by decide) rfl (Nat.le_of_ble_eq_true rfl) (ok_X8_told h1) rfl ?_
    refine aw_if_eq (off := 25) (tgt := 51) (by decide +kernel) (by decide) (fun c1 => ?_) (fun c1 => ?_)
    · rw [if_pos c1] at h
      refine aw_forget (L' := [none, none, none, none]) (lsub_n (lsub_n (lsub_n (lsub_n (lsub_0))))) ?_
      exact ok_X11_seen_51 σ2 _ h
    · rw [if_neg c1] at h
      refine aw_seq [(.iload_n 2, 1, ax0), (.iconst 0, 1, (axI 0)), (.bipush 99, 2, (axI 99))] (pc' := 33) (L' := [some (aR 11 0 0), some (aI v1), some (aI v2), some (aI v3)]) (stk' := [aI 99, aI 0, aI v2]) (σ' := σ2) (g := []) (by decide +kernel) rfl rfl ?_
      obtain ⟨r6, σ5, h4, h⟩ := bnd_some h
      refine aw_cS (P' := pX11_within) (idx := 79) (d' := 1) [aI v2, aI 0, aI 99] [] (ov := (some (aI r6))) (stk2 := [aI r6]) okp_X11_within (by decide +kernel) ml_RX11_79 tok_X11_within nar_X11_within (by decide) rfl (Nat.le_of_ble_eq_true rfl) (ok_X11_within h4) rfl ?_
      refine aw_if_eq (off := 15) (tgt := 51) (by decide +kernel) (by decide) (fun c1 => ?_) (fun c1 => ?_)
      · rw [if_pos c1] at h
        refine aw_forget (L' := [none, none, none, none]) (lsub_n (lsub_n (lsub_n (lsub_n (lsub_0))))) ?_
        exact ok_X11_seen_51 σ5 _ h
      · rw [if_neg c1] at h
        refine aw_seq [(.aload_n 0, 1, ax0), (.getfield 10, 3, (axF 11 0 (2, 1, 10, some 0))), (.getfield 295, 3, (axF 10 11 (0, 0, 0, none))), (.bipush 8, 2, (axI 8))] (pc' := 48) (L' := [some (aR 11 0 0), some (aI v1), some (aI v2), some (aI v3)]) (stk' := [aI 8, aI (σ5.1 1 11)]) (σ' := σ5) (g := []) (by decide +kernel) rfl rfl ?_
        refine aw_icmp_lt (off := 6) (tgt := 54) (by decide +kernel) (by decide) (fun c1 => ?_) (fun c1 => ?_)
        · rw [if_pos c1] at h
          obtain ⟨hg, h⟩ := grd_some h
          obtain ⟨σ7, e8, h⟩ := ltσ_some h
          refine aw_seq [(.aload_n 0, 1, ax0), (.getfield 10, 3, (axF 11 0 (2, 1, 10, some 0))), (.getfield 298, 3, (axF 10 8 (2, 15, 13, some 8))), (.aload_n 0, 1, ax0), (.getfield 10, 3, (axF 11 0 (2, 1, 10, some 0))), (.getfield 295, 3, (axF 10 11 (0, 0, 0, none))), (.iload_n 1, 1, ax0), (.iastore, 1, ax0)] (pc' := 70) (L' := [some (aR 11 0 0), some (aI v1), some (aI v2), some (aI v3)]) (stk' := []) (σ' := σ7) (g := [inb (σ5.1 1 11) 8]) (by decide +kernel) (by rw [e8]; rfl) hg ?_
          obtain ⟨hg, h⟩ := grd_some h
          obtain ⟨σ9, e10, h⟩ := ltσ_some h
          refine aw_seq [(.aload_n 0, 1, ax0), (.getfield 10, 3, (axF 11 0 (2, 1, 10, some 0))), (.getfield 301, 3, (axF 10 9 (2, 16, 13, some 8))), (.aload_n 0, 1, ax0), (.getfield 10, 3, (axF 11 0 (2, 1, 10, some 0))), (.getfield 295, 3, (axF 10 11 (0, 0, 0, none))), (.iload_n 2, 1, ax0), (.iastore, 1, ax0)] (pc' := 86) (L' := [some (aR 11 0 0), some (aI v1), some (aI v2), some (aI v3)]) (stk' := []) (σ' := σ9) (g := [inb (σ7.1 1 11) 8]) (by decide +kernel) (by rw [e10]; rfl) hg ?_
          obtain ⟨hg, h⟩ := grd_some h
          obtain ⟨σ11, e12, h⟩ := ltσ_some h
          refine aw_seq [(.aload_n 0, 1, ax0), (.getfield 10, 3, (axF 11 0 (2, 1, 10, some 0))), (.getfield 304, 3, (axF 10 10 (2, 17, 15, some 8))), (.aload_n 0, 1, ax0), (.getfield 10, 3, (axF 11 0 (2, 1, 10, some 0))), (.getfield 295, 3, (axF 10 11 (0, 0, 0, none))), (.iload_n 3, 1, ax0), (.bastore, 1, ax0)] (pc' := 102) (L' := [some (aR 11 0 0), some (aI v1), some (aI v2), some (aI v3)]) (stk' := []) (σ' := σ11) (g := [(inb (σ9.1 1 11) 8 && bz v3)]) (by decide +kernel) (by rw [e12]; rfl) hg ?_
          obtain ⟨σ13, e14, h⟩ := ltσ_some h
          refine aw_seq [(.aload_n 0, 1, ax0), (.getfield 10, 3, (axF 11 0 (2, 1, 10, some 0))), (.dup, 1, ax0), (.getfield 295, 3, (axF 10 11 (0, 0, 0, none))), (.iconst 1, 1, (axI 1)), (.iadd, 1, ax0), (.putfield 295, 3, (axF 10 11 (0, 0, 0, none)))] (pc' := 115) (L' := [some (aR 11 0 0), some (aI v1), some (aI v2), some (aI v3)]) (stk' := []) (σ' := σ13) (g := []) (by decide +kernel) (by rw [e14]; rfl) rfl ?_
          refine aw_seq [(.aload_n 0, 1, ax0), (.getfield 10, 3, (axF 11 0 (2, 1, 10, some 0))), (.getfield 295, 3, (axF 10 11 (0, 0, 0, none)))] (pc' := 122) (L' := [some (aR 11 0 0), some (aI v1), some (aI v2), some (aI v3)]) (stk' := [aI (σ13.1 1 11)]) (σ' := σ13) (g := []) (by decide +kernel) rfl rfl ?_
          cases h
          exact aw_iret rfl (by decide +kernel)
        · rw [if_neg c1] at h
          refine aw_forget (L' := [none, none, none, none]) (lsub_n (lsub_n (lsub_n (lsub_n (lsub_0))))) ?_
          exact ok_X11_seen_51 σ5 _ h
  · rw [if_pos c1] at h
    obtain ⟨σ15, e16, h⟩ := ltσ_some h
    refine aw_seq [(.aload_n 0, 1, ax0), (.getfield 10, 3, (axF 11 0 (2, 1, 10, some 0))), (.iconst 0, 1, (axI 0)), (.putfield 295, 3, (axF 10 11 (0, 0, 0, none)))] (pc' := 13) (L' := [some (aR 11 0 0), some (aI v1), some (aI v2), some (aI v3)]) (stk' := []) (σ' := σ15) (g := []) (by decide +kernel) (by rw [e16]; rfl) rfl ?_
    refine aw_seq [(.iconst 0, 1, (axI 0))] (pc' := 14) (L' := [some (aR 11 0 0), some (aI v1), some (aI v2), some (aI v3)]) (stk' := [aI 0]) (σ' := σ15) (g := []) (by decide +kernel) rfl rfl ?_
    cases h
    exact aw_iret rfl (by decide +kernel)
def f_X2_narrow_103 (w : Nat) (rec_14 : Int32 → Int32 → Sg → Option Sg) (v3 : Int32) (v4 : Int32) (σ : Sg) : Option Sg :=
  rec_14 v3 (v4 + 1) σ
set_option maxRecDepth 100000 in
set_option maxHeartbeats 4000000 in
theorem ok_X2_narrow_103 {κ : Kd} {w : Nat}  {rec_14 : Int32 → Int32 → Sg → Option Sg} (hrec_14 : ∀ (v3 : Int32) (v4 : Int32) (σ : Sg) (q : Sg), rec_14 v3 v4 σ = some q → AW κ pX2_narrow 2 (none, q) 14 [some (aR 2 0 67), some (aR 10 0 w), some (aR 9 0 59), some (aI v3), some (aI v4), none, none] [] σ) : ∀ (v3 : Int32) (v4 : Int32) (σ : Sg) (q : Sg), f_X2_narrow_103 w rec_14 v3 v4 σ = some q → AW κ pX2_narrow 2 (none, q) 103 [some (aR 2 0 67), some (aR 10 0 w), some (aR 9 0 59), some (aI v3), some (aI v4), none, none] [] σ := by
  intro v3 v4 σ q h
  unfold f_X2_narrow_103 at h
  refine aw_seq [(.iinc 4 1, 3, (axI 1))] (pc' := 106) (L' := [some (aR 2 0 67), some (aR 10 0 w), some (aR 9 0 59), some (aI v3), some (aI (v4 + 1)), none, none]) (stk' := []) (σ' := σ) (g := []) (by decide +kernel) rfl rfl ?_
  refine aw_goto (off := (-92)) (tgt := 14) (by decide +kernel) (by decide) ?_
  refine aw_forget (L' := [some (aR 2 0 67), some (aR 10 0 w), some (aR 9 0 59), some (aI v3), some (aI (v4 + 1)), none, none]) (lsub_s (lsub_s (lsub_s (lsub_s (lsub_s (lsub_n (lsub_n (lsub_0)))))))) ?_
  exact hrec_14 v3 (v4 + 1) σ _ h
def f_X2_narrow_14 (w : Nat)  : Nat → Int32 → Int32 → Sg → Option Sg
  | 0, _, _, _ => none
  | fu + 1, v3, v4, σ =>
    if (σ.1 w 11) ≤ v4 then (
      some σ
    ) else (
      grd (inb v4 8 && true) <|
      bnd (f_X9_between v3 (σ.1 (w + 15) (ix v4)) σ) fun r3 σ2 =>
      grd (inb v4 8 && (inb v4 8 && true)) <|
      if (σ2.1 (w + 17) (ix v4)) = 0 then (
        ltσ (wI σ2 67 2 (imax (σ2.1 67 2) (((σ2.1 (w + 16) (ix v4)) - r3) + 1))) fun σ8 =>
        f_X2_narrow_103 w (f_X2_narrow_14 w fu) v3 v4 σ8
      ) else (
        ltσ (wI σ2 67 2 (imax (σ2.1 67 2) ((σ2.1 (w + 16) (ix v4)) - r3))) fun σ4 =>
        ltσ (wI σ4 67 3 (imin (σ4.1 67 3) ((σ2.1 (w + 16) (ix v4)) - r3))) fun σ6 =>
        f_X2_narrow_103 w (f_X2_narrow_14 w fu) v3 v4 σ6
      )
    )
set_option maxRecDepth 100000 in
set_option maxHeartbeats 4000000 in
theorem ok_X2_narrow_14 {κ : Kd} {w : Nat}   : ∀ (fu : Nat) (v3 : Int32) (v4 : Int32) (σ : Sg) (q : Sg), f_X2_narrow_14 w fu v3 v4 σ = some q → AW κ pX2_narrow 2 (none, q) 14 [some (aR 2 0 67), some (aR 10 0 w), some (aR 9 0 59), some (aI v3), some (aI v4), none, none] [] σ := by
  intro fu
  induction fu with
  | zero =>
    intro v3 v4 σ q h
    unfold f_X2_narrow_14 at h
    cases h
  | succ fu ih =>
    intro v3 v4 σ q h
    unfold f_X2_narrow_14 at h
    refine aw_seq [(.iload 4, 2, ax0), (.aload_n 1, 1, ax0), (.getfield 35, 3, (axF 10 11 (0, 0, 0, none)))] (pc' := 20) (L' := [some (aR 2 0 67), some (aR 10 0 w), some (aR 9 0 59), some (aI v3), some (aI v4), none, none]) (stk' := [aI (σ.1 w 11), aI v4]) (σ' := σ) (g := []) (by decide +kernel) rfl rfl ?_
    refine aw_icmp_ge (off := 89) (tgt := 109) (by decide +kernel) (by decide) (fun c1 => ?_) (fun c1 => ?_)
    · rw [if_pos c1] at h
      cases h
      exact aw_vret rfl (by decide +kernel)
    · rw [if_neg c1] at h
      obtain ⟨hg, h⟩ := grd_some h
      refine aw_seq [(.aload_n 2, 1, ax0), (.iload_n 3, 1, ax0), (.aload_n 1, 1, ax0), (.getfield 40, 3, (axF 10 8 (2, 15, 13, some 8))), (.iload 4, 2, ax0), (.iaload, 1, ax0)] (pc' := 32) (L' := [some (aR 2 0 67), some (aR 10 0 w), some (aR 9 0 59), some (aI v3), some (aI v4), none, none]) (stk' := [aI (σ.1 (w + 15) (ix v4)), aI v3, aR 9 0 59]) (σ' := σ) (g := [inb v4 8]) (by decide +kernel) rfl hg ?_
      obtain ⟨r3, σ2, h1, h⟩ := bnd_some h
      refine aw_cV (P' := pX9_between) (idx := 44) (d' := 1) (c := 9) (n := 0) (k := 59) [aI v3, aI (σ.1 (w + 15) (ix v4))] [] (ov := (some (aI r3))) (stk2 := [aI r3]) okp_X9_between (by decide +kernel) ml_RX2_44 vok_X9_between (by decide) rfl nar_X9_between (by decide) rfl (Nat.le_of_ble_eq_true rfl) (ok_X9_between h1) rfl ?_
      obtain ⟨hg, h⟩ := grd_some h
      refine aw_seq [(.istore 5, 2, ax0), (.aload_n 1, 1, ax0), (.getfield 49, 3, (axF 10 9 (2, 16, 13, some 8))), (.iload 4, 2, ax0), (.iaload, 1, ax0), (.iload 5, 2, ax0), (.isub, 1, ax0), (.istore 6, 2, ax0), (.aload_n 1, 1, ax0), (.getfield 52, 3, (axF 10 10 (2, 17, 15, some 8))), (.iload 4, 2, ax0), (.baload, 1, ax0)] (pc' := 56) (L' := [some (aR 2 0 67), some (aR 10 0 w), some (aR 9 0 59), some (aI v3), some (aI v4), some (aI r3), some (aI ((σ2.1 (w + 16) (ix v4)) - r3))]) (stk' := [aI (σ2.1 (w + 17) (ix v4))]) (σ' := σ2) (g := [inb v4 8, inb v4 8]) (by decide +kernel) rfl hg ?_
      refine aw_if_ne (off := 21) (tgt := 77) (by decide +kernel) (by decide) (fun c1 => ?_) (fun c1 => ?_)
      · rw [if_neg c1] at h
        refine aw_seq [(.aload_n 0, 1, ax0), (.aload_n 0, 1, ax0), (.getfield 26, 3, (axF 2 2 (0, 0, 0, none))), (.iload 6, 2, ax0)] (pc' := 84) (L' := [some (aR 2 0 67), some (aR 10 0 w), some (aR 9 0 59), some (aI v3), some (aI v4), some (aI r3), some (aI ((σ2.1 (w + 16) (ix v4)) - r3))]) (stk' := [aI ((σ2.1 (w + 16) (ix v4)) - r3), aI (σ2.1 67 2), aR 2 0 67]) (σ' := σ2) (g := []) (by decide +kernel) rfl rfl ?_
        refine aw_imax (idx := 29) (by decide) (Nat.le_of_ble_eq_true rfl) jw_imax ml_RX2_29 (by decide +kernel) ?_
        obtain ⟨σ4, e5, h⟩ := ltσ_some h
        refine aw_seq [(.putfield 26, 3, (axF 2 2 (0, 0, 0, none)))] (pc' := 90) (L' := [some (aR 2 0 67), some (aR 10 0 w), some (aR 9 0 59), some (aI v3), some (aI v4), some (aI r3), some (aI ((σ2.1 (w + 16) (ix v4)) - r3))]) (stk' := []) (σ' := σ4) (g := []) (by decide +kernel) (by rw [e5]; rfl) rfl ?_
        refine aw_seq [(.aload_n 0, 1, ax0), (.aload_n 0, 1, ax0), (.getfield 22, 3, (axF 2 3 (0, 0, 0, none))), (.iload 6, 2, ax0)] (pc' := 97) (L' := [some (aR 2 0 67), some (aR 10 0 w), some (aR 9 0 59), some (aI v3), some (aI v4), some (aI r3), some (aI ((σ2.1 (w + 16) (ix v4)) - r3))]) (stk' := [aI ((σ2.1 (w + 16) (ix v4)) - r3), aI (σ4.1 67 3), aR 2 0 67]) (σ' := σ4) (g := []) (by decide +kernel) rfl rfl ?_
        refine aw_imin (idx := 56) (by decide) (Nat.le_of_ble_eq_true rfl) jw_imin ml_RX2_56 (by decide +kernel) ?_
        obtain ⟨σ6, e7, h⟩ := ltσ_some h
        refine aw_seq [(.putfield 22, 3, (axF 2 3 (0, 0, 0, none)))] (pc' := 103) (L' := [some (aR 2 0 67), some (aR 10 0 w), some (aR 9 0 59), some (aI v3), some (aI v4), some (aI r3), some (aI ((σ2.1 (w + 16) (ix v4)) - r3))]) (stk' := []) (σ' := σ6) (g := []) (by decide +kernel) (by rw [e7]; rfl) rfl ?_
        refine aw_forget (L' := [some (aR 2 0 67), some (aR 10 0 w), some (aR 9 0 59), some (aI v3), some (aI v4), none, none]) (lsub_s (lsub_s (lsub_s (lsub_s (lsub_s (lsub_n (lsub_n (lsub_0)))))))) ?_
        exact ok_X2_narrow_103 ih v3 v4 σ6 _ h
      · rw [if_pos c1] at h
        refine aw_seq [(.aload_n 0, 1, ax0), (.aload_n 0, 1, ax0), (.getfield 26, 3, (axF 2 2 (0, 0, 0, none))), (.iload 6, 2, ax0), (.iconst 1, 1, (axI 1)), (.iadd, 1, ax0)] (pc' := 68) (L' := [some (aR 2 0 67), some (aR 10 0 w), some (aR 9 0 59), some (aI v3), some (aI v4), some (aI r3), some (aI ((σ2.1 (w + 16) (ix v4)) - r3))]) (stk' := [aI (((σ2.1 (w + 16) (ix v4)) - r3) + 1), aI (σ2.1 67 2), aR 2 0 67]) (σ' := σ2) (g := []) (by decide +kernel) rfl rfl ?_
        refine aw_imax (idx := 29) (by decide) (Nat.le_of_ble_eq_true rfl) jw_imax ml_RX2_29 (by decide +kernel) ?_
        obtain ⟨σ8, e9, h⟩ := ltσ_some h
        refine aw_seq [(.putfield 26, 3, (axF 2 2 (0, 0, 0, none)))] (pc' := 74) (L' := [some (aR 2 0 67), some (aR 10 0 w), some (aR 9 0 59), some (aI v3), some (aI v4), some (aI r3), some (aI ((σ2.1 (w + 16) (ix v4)) - r3))]) (stk' := []) (σ' := σ8) (g := []) (by decide +kernel) (by rw [e9]; rfl) rfl ?_
        refine aw_goto (off := 29) (tgt := 103) (by decide +kernel) (by decide) ?_
        refine aw_forget (L' := [some (aR 2 0 67), some (aR 10 0 w), some (aR 9 0 59), some (aI v3), some (aI v4), none, none]) (lsub_s (lsub_s (lsub_s (lsub_s (lsub_s (lsub_n (lsub_n (lsub_0)))))))) ?_
        exact ok_X2_narrow_103 ih v3 v4 σ8 _ h
def f_X2_narrow (w : Nat) (v3 : Int32) (σ : Sg) : Option Sg :=
  ltσ (wI σ 67 2 0) fun σ10 =>
  ltσ (wI σ10 67 3 99) fun σ12 =>
  f_X2_narrow_14 w FU v3 0 σ12
set_option maxRecDepth 100000 in
set_option maxHeartbeats 4000000 in
theorem ok_X2_narrow {κ : Kd} {w : Nat} {v3 : Int32} {σ : Sg} {q : Sg} (h : f_X2_narrow w v3 σ = some q) : AMet κ pX2_narrow 2 [aR 2 0 67, aR 10 0 w, aR 9 0 59, aI v3] σ (none, q) := by
  unfold f_X2_narrow at h
  refine amet_of okp_X2_narrow [(false, aR 2 0 67), (false, aR 10 0 w), (false, aR 9 0 59), (false, aI v3)] (List.forall_mem_cons.mpr ⟨rfl, List.forall_mem_cons.mpr ⟨rfl, List.forall_mem_cons.mpr ⟨rfl, List.forall_mem_cons.mpr ⟨rfl, (fun _ hn => absurd hn List.not_mem_nil)⟩⟩⟩⟩) 3 rfl ?_
  show AW κ pX2_narrow 2 (none, q) 0 [some (aR 2 0 67), some (aR 10 0 w), some (aR 9 0 59), some (aI v3), none, none, none] [] σ
  obtain ⟨σ10, e11, h⟩ := ltσ_some h
  refine aw_seq [(.aload_n 0, 1, ax0), (.iconst 0, 1, (axI 0)), (.putfield 26, 3, (axF 2 2 (0, 0, 0, none)))] (pc' := 5) (L' := [some (aR 2 0 67), some (aR 10 0 w), some (aR 9 0 59), some (aI v3), none, none, none]) (stk' := []) (σ' := σ10) (g := []) (by decide +kernel) (by rw [e11]; rfl) rfl ?_
  obtain ⟨σ12, e13, h⟩ := ltσ_some h
  refine aw_seq [(.aload_n 0, 1, ax0), (.bipush 99, 2, (axI 99)), (.putfield 22, 3, (axF 2 3 (0, 0, 0, none)))] (pc' := 11) (L' := [some (aR 2 0 67), some (aR 10 0 w), some (aR 9 0 59), some (aI v3), none, none, none]) (stk' := []) (σ' := σ12) (g := []) (by decide +kernel) (by rw [e13]; rfl) rfl ?_
  refine aw_seq [(.iconst 0, 1, (axI 0)), (.istore 4, 2, ax0)] (pc' := 14) (L' := [some (aR 2 0 67), some (aR 10 0 w), some (aR 9 0 59), some (aI v3), some (aI 0), none, none]) (stk' := []) (σ' := σ12) (g := []) (by decide +kernel) rfl rfl ?_
  refine aw_forget (L' := [some (aR 2 0 67), some (aR 10 0 w), some (aR 9 0 59), some (aI v3), some (aI 0), none, none]) (lsub_s (lsub_s (lsub_s (lsub_s (lsub_s (lsub_n (lsub_n (lsub_0)))))))) ?_
  exact ok_X2_narrow_14 FU v3 0 σ12 _ h
def f_X2_hoursFrom (w : Nat) (v3 : Int32) (σ : Sg) : Option (Int32 × Sg) :=
  bndV (f_X2_narrow w v3 σ) fun σ2 =>
  some ((imax 0 (((σ2.1 67 3) - (σ2.1 67 2)) + 1)), σ2)
set_option maxRecDepth 100000 in
set_option maxHeartbeats 4000000 in
theorem ok_X2_hoursFrom {κ : Kd} {w : Nat} {v3 : Int32} {σ : Sg} {q : (Int32 × Sg)} (h : f_X2_hoursFrom w v3 σ = some q) : AMet κ pX2_hoursFrom 3 [aR 2 0 67, aR 10 0 w, aR 9 0 59, aI v3] σ (some (aI q.1), q.2) := by
  unfold f_X2_hoursFrom at h
  refine amet_of okp_X2_hoursFrom [(false, aR 2 0 67), (false, aR 10 0 w), (false, aR 9 0 59), (false, aI v3)] (List.forall_mem_cons.mpr ⟨rfl, List.forall_mem_cons.mpr ⟨rfl, List.forall_mem_cons.mpr ⟨rfl, List.forall_mem_cons.mpr ⟨rfl, (fun _ hn => absurd hn List.not_mem_nil)⟩⟩⟩⟩) 0 rfl ?_
  show AW κ pX2_hoursFrom 3 (some (aI q.1), q.2) 0 [some (aR 2 0 67), some (aR 10 0 w), some (aR 9 0 59), some (aI v3)] [] σ
  refine aw_seq [(.aload_n 0, 1, ax0), (.aload_n 1, 1, ax0), (.aload_n 2, 1, ax0), (.iload_n 3, 1, ax0)] (pc' := 4) (L' := [some (aR 2 0 67), some (aR 10 0 w), some (aR 9 0 59), some (aI v3)]) (stk' := [aI v3, aR 9 0 59, aR 10 0 w, aR 2 0 67]) (σ' := σ) (g := []) (by decide +kernel) rfl rfl ?_
  obtain ⟨σ2, h1, h⟩ := bndV_some h
  refine aw_cV (P' := pX2_narrow) (idx := 18) (d' := 2) (c := 2) (n := 0) (k := 67) [aR 10 0 w, aR 9 0 59, aI v3] [] (ov := none) (stk2 := []) okp_X2_narrow (by decide +kernel) ml_RX2_18 vok_X2_narrow (by decide) rfl nar_X2_narrow (by decide) rfl (Nat.le_of_ble_eq_true rfl) (ok_X2_narrow h1) rfl ?_
  refine aw_seq [(.iconst 0, 1, (axI 0)), (.aload_n 0, 1, ax0), (.getfield 22, 3, (axF 2 3 (0, 0, 0, none))), (.aload_n 0, 1, ax0), (.getfield 26, 3, (axF 2 2 (0, 0, 0, none))), (.isub, 1, ax0), (.iconst 1, 1, (axI 1)), (.iadd, 1, ax0)] (pc' := 19) (L' := [some (aR 2 0 67), some (aR 10 0 w), some (aR 9 0 59), some (aI v3)]) (stk' := [aI (((σ2.1 67 3) - (σ2.1 67 2)) + 1), aI 0]) (σ' := σ2) (g := []) (by decide +kernel) rfl rfl ?_
  refine aw_imax (idx := 29) (by decide) (Nat.le_of_ble_eq_true rfl) jw_imax ml_RX2_29 (by decide +kernel) ?_
  cases h
  exact aw_iret rfl (by decide +kernel)
def f_X11_began_102  (rec_63 : Int32 → Int32 → Sg → Option (Int32 × Sg)) (v2 : Int32) (v3 : Int32) (σ : Sg) : Option (Int32 × Sg) :=
  rec_63 v2 (v3 + 1) σ
set_option maxRecDepth 100000 in
set_option maxHeartbeats 4000000 in
theorem ok_X11_began_102 {κ : Kd}   {rec_63 : Int32 → Int32 → Sg → Option (Int32 × Sg)} (hrec_63 : ∀ (v2 : Int32) (v3 : Int32) (σ : Sg) (q : (Int32 × Sg)), rec_63 v2 v3 σ = some q → AW κ pX11_began 4 (some (aI q.1), q.2) 63 [some (aR 11 0 0), none, some (aI v2), some (aI v3)] [] σ) : ∀ (v2 : Int32) (v3 : Int32) (σ : Sg) (q : (Int32 × Sg)), f_X11_began_102 rec_63 v2 v3 σ = some q → AW κ pX11_began 4 (some (aI q.1), q.2) 102 [some (aR 11 0 0), none, some (aI v2), some (aI v3)] [] σ := by
  intro v2 v3 σ q h
  unfold f_X11_began_102 at h
  refine aw_seq [(.iinc 3 1, 3, (axI 1))] (pc' := 105) (L' := [some (aR 11 0 0), none, some (aI v2), some (aI (v3 + 1))]) (stk' := []) (σ' := σ) (g := []) (by decide +kernel) rfl rfl ?_
  refine aw_goto (off := (-42)) (tgt := 63) (by decide +kernel) (by decide) ?_
  refine aw_forget (L' := [some (aR 11 0 0), none, some (aI v2), some (aI (v3 + 1))]) (lsub_s (lsub_n (lsub_s (lsub_s (lsub_0))))) ?_
  exact hrec_63 v2 (v3 + 1) σ _ h
def f_X11_began_63   : Nat → Int32 → Int32 → Sg → Option (Int32 × Sg)
  | 0, _, _, _ => none
  | fu + 1, v2, v3, σ =>
    if (σ.1 2 0) ≤ v3 then (
      some (v2, σ)
    ) else (
      bnd (f_X2_hoursFrom 1 v3 σ) fun r3 σ2 =>
      if r3 ≤ 0 then (
        f_X11_began_102 (f_X11_began_63 fu) v2 v3 σ2
      ) else (
        f_X11_began_102 (f_X11_began_63 fu) (v2 ||| (shl 1 v3)) v3 σ2
      )
    )
set_option maxRecDepth 100000 in
set_option maxHeartbeats 4000000 in
theorem ok_X11_began_63 {κ : Kd}    : ∀ (fu : Nat) (v2 : Int32) (v3 : Int32) (σ : Sg) (q : (Int32 × Sg)), f_X11_began_63 fu v2 v3 σ = some q → AW κ pX11_began 4 (some (aI q.1), q.2) 63 [some (aR 11 0 0), none, some (aI v2), some (aI v3)] [] σ := by
  intro fu
  induction fu with
  | zero =>
    intro v2 v3 σ q h
    unfold f_X11_began_63 at h
    cases h
  | succ fu ih =>
    intro v2 v3 σ q h
    unfold f_X11_began_63 at h
    refine aw_seq [(.iload_n 3, 1, ax0), (.aload_n 0, 1, ax0), (.getfield 10, 3, (axF 11 0 (2, 1, 10, some 0))), (.getfield 68, 3, (axF 10 0 (2, 1, 8, some 0))), (.getfield 312, 3, (axF 8 0 (0, 0, 0, none)))] (pc' := 74) (L' := [some (aR 11 0 0), none, some (aI v2), some (aI v3)]) (stk' := [aI (σ.1 2 0), aI v3]) (σ' := σ) (g := []) (by decide +kernel) rfl rfl ?_
    refine aw_icmp_ge (off := 34) (tgt := 108) (by decide +kernel) (by decide) (fun c1 => ?_) (fun c1 => ?_)
    · rw [if_pos c1] at h
      refine aw_seq [(.iload_n 2, 1, ax0)] (pc' := 109) (L' := [some (aR 11 0 0), none, some (aI v2), some (aI v3)]) (stk' := [aI v2]) (σ' := σ) (g := []) (by decide +kernel) rfl rfl ?_
      cases h
      exact aw_iret rfl (by decide +kernel)
    · rw [if_neg c1] at h
      refine aw_seq [(.aload_n 0, 1, ax0), (.getfield 57, 3, (axF 11 7 (2, 67, 2, some 0))), (.aload_n 0, 1, ax0), (.getfield 10, 3, (axF 11 0 (2, 1, 10, some 0))), (.aload_n 0, 1, ax0), (.getfield 43, 3, (axF 11 5 (2, 59, 9, some 0))), (.iload_n 3, 1, ax0)] (pc' := 90) (L' := [some (aR 11 0 0), none, some (aI v2), some (aI v3)]) (stk' := [aI v3, aR 9 0 59, aR 10 0 1, aR 2 0 67]) (σ' := σ) (g := []) (by decide +kernel) rfl rfl ?_
      obtain ⟨r3, σ2, h1, h⟩ := bnd_some h
      refine aw_cV (P' := pX2_hoursFrom) (idx := 308) (d' := 3) (c := 2) (n := 0) (k := 67) [aR 10 0 1, aR 9 0 59, aI v3] [] (ov := (some (aI r3))) (stk2 := [aI r3]) okp_X2_hoursFrom (by decide +kernel) ml_RX11_308 vok_X2_hoursFrom (by decide) rfl nar_X2_hoursFrom (by decide) rfl (Nat.le_of_ble_eq_true rfl) (ok_X2_hoursFrom h1) rfl ?_
      refine aw_if_le (off := 9) (tgt := 102) (by decide +kernel) (by decide) (fun c1 => ?_) (fun c1 => ?_)
      · rw [if_pos c1] at h
        refine aw_forget (L' := [some (aR 11 0 0), none, some (aI v2), some (aI v3)]) (lsub_s (lsub_n (lsub_s (lsub_s (lsub_0))))) ?_
        exact ok_X11_began_102 ih v2 v3 σ2 _ h
      · rw [if_neg c1] at h
        refine aw_seq [(.iload_n 2, 1, ax0), (.iconst 1, 1, (axI 1)), (.iload_n 3, 1, ax0), (.ishl, 1, ax0), (.ior, 1, ax0), (.istore_n 2, 1, ax0)] (pc' := 102) (L' := [some (aR 11 0 0), none, some (aI (v2 ||| (shl 1 v3))), some (aI v3)]) (stk' := []) (σ' := σ2) (g := []) (by decide +kernel) rfl rfl ?_
        refine aw_forget (L' := [some (aR 11 0 0), none, some (aI (v2 ||| (shl 1 v3))), some (aI v3)]) (lsub_s (lsub_n (lsub_s (lsub_s (lsub_0))))) ?_
        exact ok_X11_began_102 ih (v2 ||| (shl 1 v3)) v3 σ2 _ h
def f_X11_began_22   (v1 : Int32) (σ : Sg) : Option (Int32 × Sg) :=
  bndV (f_X9_measure 8 1 σ) fun σ5 =>
  if v1 = (-1) then (
    f_X11_began_63 FU 0 0 σ5
  ) else (
    bnd (f_X2_hoursFrom 1 v1 σ5) fun r8 σ7 =>
    some (r8, σ7)
  )
set_option maxRecDepth 100000 in
set_option maxHeartbeats 4000000 in
theorem ok_X11_began_22 {κ : Kd}    : ∀ (v1 : Int32) (σ : Sg) (q : (Int32 × Sg)), f_X11_began_22 v1 σ = some q → AW κ pX11_began 4 (some (aI q.1), q.2) 22 [some (aR 11 0 0), some (aI v1), none, none] [] σ := by
  intro v1 σ q h
  unfold f_X11_began_22 at h
  refine aw_seq [(.aload_n 0, 1, ax0), (.getfield 43, 3, (axF 11 5 (2, 59, 9, some 0))), (.aload_n 0, 1, ax0), (.getfield 10, 3, (axF 11 0 (2, 1, 10, some 0))), (.getfield 83, 3, (axF 10 1 (2, 7, 5, some 0))), (.iconst 1, 1, (axI 1))] (pc' := 34) (L' := [some (aR 11 0 0), some (aI v1), none, none]) (stk' := [aI 1, aR 5 0 8, aR 9 0 59]) (σ' := σ) (g := []) (by decide +kernel) rfl rfl ?_
  obtain ⟨σ5, h4, h⟩ := bndV_some h
  refine aw_cV (P' := pX9_measure) (idx := 246) (d' := 3) (c := 9) (n := 0) (k := 59) [aR 5 0 8, aI 1] [] (ov := none) (stk2 := []) okp_X9_measure (by decide +kernel) ml_RX11_246 vok_X9_measure (by decide) rfl nar_X9_measure (by decide) rfl (Nat.le_of_ble_eq_true rfl) (ok_X9_measure h4) rfl ?_
  refine aw_seq [(.iload_n 1, 1, ax0), (.iconst (-1), 1, (axI (-1)))] (pc' := 39) (L' := [some (aR 11 0 0), some (aI v1), none, none]) (stk' := [aI (-1), aI v1]) (σ' := σ5) (g := []) (by decide +kernel) rfl rfl ?_
  refine aw_icmp_eq (off := 20) (tgt := 59) (by decide +kernel) (by decide) (fun c1 => ?_) (fun c1 => ?_)
  · rw [if_pos c1] at h
    refine aw_seq [(.iconst 0, 1, (axI 0)), (.istore_n 2, 1, ax0), (.iconst 0, 1, (axI 0)), (.istore_n 3, 1, ax0)] (pc' := 63) (L' := [some (aR 11 0 0), some (aI v1), some (aI 0), some (aI 0)]) (stk' := []) (σ' := σ5) (g := []) (by decide +kernel) rfl rfl ?_
    refine aw_forget (L' := [some (aR 11 0 0), none, some (aI 0), some (aI 0)]) (lsub_s (lsub_n (lsub_s (lsub_s (lsub_0))))) ?_
    exact ok_X11_began_63 FU 0 0 σ5 _ h
  · rw [if_neg c1] at h
    refine aw_seq [(.aload_n 0, 1, ax0), (.getfield 57, 3, (axF 11 7 (2, 67, 2, some 0))), (.aload_n 0, 1, ax0), (.getfield 10, 3, (axF 11 0 (2, 1, 10, some 0))), (.aload_n 0, 1, ax0), (.getfield 43, 3, (axF 11 5 (2, 59, 9, some 0))), (.iload_n 1, 1, ax0)] (pc' := 55) (L' := [some (aR 11 0 0), some (aI v1), none, none]) (stk' := [aI v1, aR 9 0 59, aR 10 0 1, aR 2 0 67]) (σ' := σ5) (g := []) (by decide +kernel) rfl rfl ?_
    obtain ⟨r8, σ7, h6, h⟩ := bnd_some h
    refine aw_cV (P' := pX2_hoursFrom) (idx := 308) (d' := 3) (c := 2) (n := 0) (k := 67) [aR 10 0 1, aR 9 0 59, aI v1] [] (ov := (some (aI r8))) (stk2 := [aI r8]) okp_X2_hoursFrom (by decide +kernel) ml_RX11_308 vok_X2_hoursFrom (by decide) rfl nar_X2_hoursFrom (by decide) rfl (Nat.le_of_ble_eq_true rfl) (ok_X2_hoursFrom h6) rfl ?_
    cases h
    exact aw_iret rfl (by decide +kernel)
def f_X11_began (v1 : Int32) (σ : Sg) : Option (Int32 × Sg) :=
  if v1 = (-1) then (
    f_X11_began_22 v1 σ
  ) else (
    bnd (f_X8_told 2 v1 σ) fun r11 σ10 =>
    if r11 = 0 then (
      some ((-2), σ10)
    ) else (
      f_X11_began_22 v1 σ10
    )
  )
set_option maxRecDepth 100000 in
set_option maxHeartbeats 4000000 in
theorem ok_X11_began {κ : Kd} {v1 : Int32} {σ : Sg} {q : (Int32 × Sg)} (h : f_X11_began v1 σ = some q) : AMet κ pX11_began 4 [aR 11 0 0, aI v1] σ (some (aI q.1), q.2) := by
  unfold f_X11_began at h
  refine amet_of okp_X11_began [(false, aR 11 0 0), (false, aI v1)] (List.forall_mem_cons.mpr ⟨rfl, List.forall_mem_cons.mpr ⟨rfl, (fun _ hn => absurd hn List.not_mem_nil)⟩⟩) 2 rfl ?_
  show AW κ pX11_began 4 (some (aI q.1), q.2) 0 [some (aR 11 0 0), some (aI v1), none, none] [] σ
  refine aw_seq [(.iload_n 1, 1, ax0), (.iconst (-1), 1, (axI (-1)))] (pc' := 2) (L' := [some (aR 11 0 0), some (aI v1), none, none]) (stk' := [aI (-1), aI v1]) (σ' := σ) (g := []) (by decide +kernel) rfl rfl ?_
  refine aw_icmp_eq (off := 20) (tgt := 22) (by decide +kernel) (by decide) (fun c1 => ?_) (fun c1 => ?_)
  · rw [if_pos c1] at h
    refine aw_forget (L' := [some (aR 11 0 0), some (aI v1), none, none]) (lsub_s (lsub_s (lsub_n (lsub_n (lsub_0))))) ?_
    exact ok_X11_began_22 v1 σ _ h
  · rw [if_neg c1] at h
    refine aw_seq [(.aload_n 0, 1, ax0), (.getfield 10, 3, (axF 11 0 (2, 1, 10, some 0))), (.getfield 68, 3, (axF 10 0 (2, 1, 8, some 0))), (.iload_n 1, 1, ax0)] (pc' := 13) (L' := [some (aR 11 0 0), some (aI v1), none, none]) (stk' := [aI v1, aR 8 0 2]) (σ' := σ) (g := []) (by decide +kernel) rfl rfl ?_
    obtain ⟨r11, σ10, h9, h⟩ := bnd_some h
    refine aw_cV (P' := pX8_told) (idx := 75) (d' := 1) (c := 8) (n := 0) (k := 2) [aI v1] [] (ov := (some (aI r11))) (stk2 := [aI r11]) okp_X8_told (by decide +kernel) ml_RX11_75 vok_X8_told (by decide) rfl nar_X8_told (by decide) rfl (Nat.le_of_ble_eq_true rfl) (ok_X8_told h9) rfl ?_
    refine aw_if_ne (off := 6) (tgt := 22) (by decide +kernel) (by decide) (fun c1 => ?_) (fun c1 => ?_)
    · rw [if_neg c1] at h
      refine aw_forget (L' := [some (aR 11 0 0), some (aI v1), none, none]) (lsub_s (lsub_s (lsub_n (lsub_n (lsub_0))))) ?_
      exact ok_X11_began_22 v1 σ10 _ h
    · rw [if_pos c1] at h
      refine aw_seq [(.bipush (-2), 2, (axI (-2)))] (pc' := 21) (L' := [some (aR 11 0 0), some (aI v1), none, none]) (stk' := [aI (-2)]) (σ' := σ10) (g := []) (by decide +kernel) rfl rfl ?_
      cases h
      exact aw_iret rfl (by decide +kernel)
def f_X2_markAll_84 (w : Nat) (rec_3 : Int32 → Int32 → Int32 → Sg → Option Sg) (v3 : Int32) (v4 : Int32) (v5 : Int32) (σ : Sg) : Option Sg :=
  rec_3 v3 v4 (v5 + 1) σ
set_option maxRecDepth 100000 in
set_option maxHeartbeats 4000000 in
theorem ok_X2_markAll_84 {κ : Kd} {w : Nat}  {rec_3 : Int32 → Int32 → Int32 → Sg → Option Sg} (hrec_3 : ∀ (v3 : Int32) (v4 : Int32) (v5 : Int32) (σ : Sg) (q : Sg), rec_3 v3 v4 v5 σ = some q → AW κ pX2_markAll 2 (none, q) 3 [some (aR 2 0 67), some (aR 10 0 w), some (aR 9 0 59), some (aI v3), some (aI v4), some (aI v5), none, none] [] σ) : ∀ (v3 : Int32) (v4 : Int32) (v5 : Int32) (σ : Sg) (q : Sg), f_X2_markAll_84 w rec_3 v3 v4 v5 σ = some q → AW κ pX2_markAll 2 (none, q) 84 [some (aR 2 0 67), some (aR 10 0 w), some (aR 9 0 59), some (aI v3), some (aI v4), some (aI v5), none, none] [] σ := by
  intro v3 v4 v5 σ q h
  unfold f_X2_markAll_84 at h
  refine aw_seq [(.iinc 5 1, 3, (axI 1))] (pc' := 87) (L' := [some (aR 2 0 67), some (aR 10 0 w), some (aR 9 0 59), some (aI v3), some (aI v4), some (aI (v5 + 1)), none, none]) (stk' := []) (σ' := σ) (g := []) (by decide +kernel) rfl rfl ?_
  refine aw_goto (off := (-84)) (tgt := 3) (by decide +kernel) (by decide) ?_
  refine aw_forget (L' := [some (aR 2 0 67), some (aR 10 0 w), some (aR 9 0 59), some (aI v3), some (aI v4), some (aI (v5 + 1)), none, none]) (lsub_s (lsub_s (lsub_s (lsub_s (lsub_s (lsub_s (lsub_n (lsub_n (lsub_0))))))))) ?_
  exact hrec_3 v3 v4 (v5 + 1) σ _ h
def f_X2_markAll_41 (w : Nat) (rec_3 : Int32 → Int32 → Int32 → Sg → Option Sg) (v3 : Int32) (v4 : Int32) (v5 : Int32) (s0 : Int32) (σ : Sg) : Option Sg :=
  if 64 ≤ s0 then (
    grd (inb v5 8 && (inb v5 8 && true)) <|
    ltσ (wL σ 69 (ix v5) ((σ.2.1 69 (ix v5)) ||| (lshl 1 (s0 - 64)))) fun σ1 =>
    f_X2_markAll_84 w rec_3 v3 v4 v5 σ1
  ) else (
    grd (inb v5 8 && (inb v5 8 && true)) <|
    ltσ (wL σ 68 (ix v5) ((σ.2.1 68 (ix v5)) ||| (lshl 1 s0))) fun σ3 =>
    f_X2_markAll_84 w rec_3 v3 v4 v5 σ3
  )
set_option maxRecDepth 100000 in
set_option maxHeartbeats 4000000 in
theorem ok_X2_markAll_41 {κ : Kd} {w : Nat}  {rec_3 : Int32 → Int32 → Int32 → Sg → Option Sg} (hrec_3 : ∀ (v3 : Int32) (v4 : Int32) (v5 : Int32) (σ : Sg) (q : Sg), rec_3 v3 v4 v5 σ = some q → AW κ pX2_markAll 2 (none, q) 3 [some (aR 2 0 67), some (aR 10 0 w), some (aR 9 0 59), some (aI v3), some (aI v4), some (aI v5), none, none] [] σ) : ∀ (v3 : Int32) (v4 : Int32) (v5 : Int32) (s0 : Int32) (σ : Sg) (q : Sg), f_X2_markAll_41 w rec_3 v3 v4 v5 s0 σ = some q → AW κ pX2_markAll 2 (none, q) 41 [some (aR 2 0 67), some (aR 10 0 w), some (aR 9 0 59), some (aI v3), some (aI v4), some (aI v5), none, none] [aI s0] σ := by
  intro v3 v4 v5 s0 σ q h
  unfold f_X2_markAll_41 at h
  refine aw_seq [(.istore 7, 2, ax0), (.iload 7, 2, ax0), (.bipush 64, 2, (axI 64))] (pc' := 47) (L' := [some (aR 2 0 67), some (aR 10 0 w), some (aR 9 0 59), some (aI v3), some (aI v4), some (aI v5), none, some (aI s0)]) (stk' := [aI 64, aI s0]) (σ' := σ) (g := []) (by decide +kernel) rfl rfl ?_
  refine aw_icmp_ge (off := 20) (tgt := 67) (by decide +kernel) (by decide) (fun c1 => ?_) (fun c1 => ?_)
  · rw [if_pos c1] at h
    obtain ⟨hg, h⟩ := grd_some h
    obtain ⟨σ1, e2, h⟩ := ltσ_some h
    refine aw_seq [(.aload_n 0, 1, ax0), (.getfield 15, 3, (axF 2 1 (2, 2, 14, some 8))), (.iload 5, 2, ax0), (.dup2, 1, ax0), (.laload, 1, ax0), (.lconst 1, 1, (axL 1)), (.iload 7, 2, ax0), (.bipush 64, 2, (axI 64)), (.isub, 1, ax0), (.lshl, 1, ax0), (.lor, 1, ax0), (.lastore, 1, ax0)] (pc' := 84) (L' := [some (aR 2 0 67), some (aR 10 0 w), some (aR 9 0 59), some (aI v3), some (aI v4), some (aI v5), none, some (aI s0)]) (stk' := []) (σ' := σ1) (g := [inb v5 8, inb v5 8]) (by decide +kernel) (by rw [e2]; rfl) hg ?_
    refine aw_forget (L' := [some (aR 2 0 67), some (aR 10 0 w), some (aR 9 0 59), some (aI v3), some (aI v4), some (aI v5), none, none]) (lsub_s (lsub_s (lsub_s (lsub_s (lsub_s (lsub_s (lsub_n (lsub_n (lsub_0))))))))) ?_
    exact ok_X2_markAll_84 hrec_3 v3 v4 v5 σ1 _ h
  · rw [if_neg c1] at h
    obtain ⟨hg, h⟩ := grd_some h
    obtain ⟨σ3, e4, h⟩ := ltσ_some h
    refine aw_seq [(.aload_n 0, 1, ax0), (.getfield 9, 3, (axF 2 0 (2, 1, 14, some 8))), (.iload 5, 2, ax0), (.dup2, 1, ax0), (.laload, 1, ax0), (.lconst 1, 1, (axL 1)), (.iload 7, 2, ax0), (.lshl, 1, ax0), (.lor, 1, ax0), (.lastore, 1, ax0)] (pc' := 64) (L' := [some (aR 2 0 67), some (aR 10 0 w), some (aR 9 0 59), some (aI v3), some (aI v4), some (aI v5), none, some (aI s0)]) (stk' := []) (σ' := σ3) (g := [inb v5 8, inb v5 8]) (by decide +kernel) (by rw [e4]; rfl) hg ?_
    refine aw_goto (off := 20) (tgt := 84) (by decide +kernel) (by decide) ?_
    refine aw_forget (L' := [some (aR 2 0 67), some (aR 10 0 w), some (aR 9 0 59), some (aI v3), some (aI v4), some (aI v5), none, none]) (lsub_s (lsub_s (lsub_s (lsub_s (lsub_s (lsub_s (lsub_n (lsub_n (lsub_0))))))))) ?_
    exact ok_X2_markAll_84 hrec_3 v3 v4 v5 σ3 _ h
def f_X2_markAll_3 (w : Nat)  : Nat → Int32 → Int32 → Int32 → Sg → Option Sg
  | 0, _, _, _, _ => none
  | fu + 1, v3, v4, v5, σ =>
    if (σ.1 (w + 1) 0) ≤ v5 then (
      some σ
    ) else (
      bnd (f_X9_between v3 v5 σ) fun r7 σ6 =>
      if 1000000 ≤ r7 then (
        f_X2_markAll_41 w (f_X2_markAll_3 w fu) v3 v4 v5 107 σ6
      ) else (
        f_X2_markAll_41 w (f_X2_markAll_3 w fu) v3 v4 v5 (v4 + r7) σ6
      )
    )
set_option maxRecDepth 100000 in
set_option maxHeartbeats 4000000 in
theorem ok_X2_markAll_3 {κ : Kd} {w : Nat}   : ∀ (fu : Nat) (v3 : Int32) (v4 : Int32) (v5 : Int32) (σ : Sg) (q : Sg), f_X2_markAll_3 w fu v3 v4 v5 σ = some q → AW κ pX2_markAll 2 (none, q) 3 [some (aR 2 0 67), some (aR 10 0 w), some (aR 9 0 59), some (aI v3), some (aI v4), some (aI v5), none, none] [] σ := by
  intro fu
  induction fu with
  | zero =>
    intro v3 v4 v5 σ q h
    unfold f_X2_markAll_3 at h
    cases h
  | succ fu ih =>
    intro v3 v4 v5 σ q h
    unfold f_X2_markAll_3 at h
    refine aw_seq [(.iload 5, 2, ax0), (.aload_n 1, 1, ax0), (.getfield 59, 3, (axF 10 0 (2, 1, 8, some 0))), (.getfield 63, 3, (axF 8 0 (0, 0, 0, none)))] (pc' := 12) (L' := [some (aR 2 0 67), some (aR 10 0 w), some (aR 9 0 59), some (aI v3), some (aI v4), some (aI v5), none, none]) (stk' := [aI (σ.1 (w + 1) 0), aI v5]) (σ' := σ) (g := []) (by decide +kernel) rfl rfl ?_
    refine aw_icmp_ge (off := 78) (tgt := 90) (by decide +kernel) (by decide) (fun c1 => ?_) (fun c1 => ?_)
    · rw [if_pos c1] at h
      cases h
      exact aw_vret rfl (by decide +kernel)
    · rw [if_neg c1] at h
      refine aw_seq [(.aload_n 2, 1, ax0), (.iload_n 3, 1, ax0), (.iload 5, 2, ax0)] (pc' := 19) (L' := [some (aR 2 0 67), some (aR 10 0 w), some (aR 9 0 59), some (aI v3), some (aI v4), some (aI v5), none, none]) (stk' := [aI v5, aI v3, aR 9 0 59]) (σ' := σ) (g := []) (by decide +kernel) rfl rfl ?_
      obtain ⟨r7, σ6, h5, h⟩ := bnd_some h
      refine aw_cV (P' := pX9_between) (idx := 44) (d' := 1) (c := 9) (n := 0) (k := 59) [aI v3, aI v5] [] (ov := (some (aI r7))) (stk2 := [aI r7]) okp_X9_between (by decide +kernel) ml_RX2_44 vok_X9_between (by decide) rfl nar_X9_between (by decide) rfl (Nat.le_of_ble_eq_true rfl) (ok_X9_between h5) rfl ?_
      refine aw_seq [(.istore 6, 2, ax0), (.iload 6, 2, ax0), (.ldc 72, 2, (axI 1000000))] (pc' := 28) (L' := [some (aR 2 0 67), some (aR 10 0 w), some (aR 9 0 59), some (aI v3), some (aI v4), some (aI v5), some (aI r7), none]) (stk' := [aI 1000000, aI r7]) (σ' := σ6) (g := []) (by decide +kernel) rfl rfl ?_
      refine aw_icmp_ge (off := 11) (tgt := 39) (by decide +kernel) (by decide) (fun c1 => ?_) (fun c1 => ?_)
      · rw [if_pos c1] at h
        refine aw_seq [(.bipush 107, 2, (axI 107))] (pc' := 41) (L' := [some (aR 2 0 67), some (aR 10 0 w), some (aR 9 0 59), some (aI v3), some (aI v4), some (aI v5), some (aI r7), none]) (stk' := [aI 107]) (σ' := σ6) (g := []) (by decide +kernel) rfl rfl ?_
        refine aw_forget (L' := [some (aR 2 0 67), some (aR 10 0 w), some (aR 9 0 59), some (aI v3), some (aI v4), some (aI v5), none, none]) (lsub_s (lsub_s (lsub_s (lsub_s (lsub_s (lsub_s (lsub_n (lsub_n (lsub_0))))))))) ?_
        exact ok_X2_markAll_41 ih v3 v4 v5 107 σ6 _ h
      · rw [if_neg c1] at h
        refine aw_seq [(.iload 4, 2, ax0), (.iload 6, 2, ax0), (.iadd, 1, ax0)] (pc' := 36) (L' := [some (aR 2 0 67), some (aR 10 0 w), some (aR 9 0 59), some (aI v3), some (aI v4), some (aI v5), some (aI r7), none]) (stk' := [aI (v4 + r7)]) (σ' := σ6) (g := []) (by decide +kernel) rfl rfl ?_
        refine aw_goto (off := 5) (tgt := 41) (by decide +kernel) (by decide) ?_
        refine aw_forget (L' := [some (aR 2 0 67), some (aR 10 0 w), some (aR 9 0 59), some (aI v3), some (aI v4), some (aI v5), none, none]) (lsub_s (lsub_s (lsub_s (lsub_s (lsub_s (lsub_s (lsub_n (lsub_n (lsub_0))))))))) ?_
        exact ok_X2_markAll_41 ih v3 v4 v5 (v4 + r7) σ6 _ h
def f_X2_markAll (w : Nat) (v3 : Int32) (v4 : Int32) (σ : Sg) : Option Sg :=
  f_X2_markAll_3 w FU v3 v4 0 σ
set_option maxRecDepth 100000 in
set_option maxHeartbeats 4000000 in
theorem ok_X2_markAll {κ : Kd} {w : Nat} {v3 : Int32} {v4 : Int32} {σ : Sg} {q : Sg} (h : f_X2_markAll w v3 v4 σ = some q) : AMet κ pX2_markAll 2 [aR 2 0 67, aR 10 0 w, aR 9 0 59, aI v3, aI v4] σ (none, q) := by
  unfold f_X2_markAll at h
  refine amet_of okp_X2_markAll [(false, aR 2 0 67), (false, aR 10 0 w), (false, aR 9 0 59), (false, aI v3), (false, aI v4)] (List.forall_mem_cons.mpr ⟨rfl, List.forall_mem_cons.mpr ⟨rfl, List.forall_mem_cons.mpr ⟨rfl, List.forall_mem_cons.mpr ⟨rfl, List.forall_mem_cons.mpr ⟨rfl, (fun _ hn => absurd hn List.not_mem_nil)⟩⟩⟩⟩⟩) 3 rfl ?_
  show AW κ pX2_markAll 2 (none, q) 0 [some (aR 2 0 67), some (aR 10 0 w), some (aR 9 0 59), some (aI v3), some (aI v4), none, none, none] [] σ
  refine aw_seq [(.iconst 0, 1, (axI 0)), (.istore 5, 2, ax0)] (pc' := 3) (L' := [some (aR 2 0 67), some (aR 10 0 w), some (aR 9 0 59), some (aI v3), some (aI v4), some (aI 0), none, none]) (stk' := []) (σ' := σ) (g := []) (by decide +kernel) rfl rfl ?_
  refine aw_forget (L' := [some (aR 2 0 67), some (aR 10 0 w), some (aR 9 0 59), some (aI v3), some (aI v4), some (aI 0), none, none]) (lsub_s (lsub_s (lsub_s (lsub_s (lsub_s (lsub_s (lsub_n (lsub_n (lsub_0))))))))) ?_
  exact ok_X2_markAll_3 FU v3 v4 0 σ _ h
def f_X2_gather_54 (w : Nat) (rec_30 : Int32 → Sg → Option Sg) : Nat → Int32 → Int32 → Sg → Option Sg
  | 0, _, _, _ => none
  | fu + 1, v3, v4, σ =>
    if (σ.1 67 3) < v4 then (
      rec_30 (v3 + 1) σ
    ) else (
      bndV (f_X2_markAll w v3 v4 σ) fun σ2 =>
      (f_X2_gather_54 w rec_30 fu) v3 (v4 + 1) σ2
    )
set_option maxRecDepth 100000 in
set_option maxHeartbeats 4000000 in
theorem ok_X2_gather_54 {κ : Kd} {w : Nat}  {rec_30 : Int32 → Sg → Option Sg} (hrec_30 : ∀ (v3 : Int32) (σ : Sg) (q : Sg), rec_30 v3 σ = some q → AW κ pX2_gather 3 (none, q) 30 [some (aR 2 0 67), some (aR 10 0 w), some (aR 9 0 59), some (aI v3), none] [] σ) : ∀ (fu : Nat) (v3 : Int32) (v4 : Int32) (σ : Sg) (q : Sg), f_X2_gather_54 w rec_30 fu v3 v4 σ = some q → AW κ pX2_gather 3 (none, q) 54 [some (aR 2 0 67), some (aR 10 0 w), some (aR 9 0 59), some (aI v3), some (aI v4)] [] σ := by
  intro fu
  induction fu with
  | zero =>
    intro v3 v4 σ q h
    unfold f_X2_gather_54 at h
    cases h
  | succ fu ih =>
    intro v3 v4 σ q h
    unfold f_X2_gather_54 at h
    refine aw_seq [(.iload 4, 2, ax0), (.aload_n 0, 1, ax0), (.getfield 22, 3, (axF 2 3 (0, 0, 0, none)))] (pc' := 60) (L' := [some (aR 2 0 67), some (aR 10 0 w), some (aR 9 0 59), some (aI v3), some (aI v4)]) (stk' := [aI (σ.1 67 3), aI v4]) (σ' := σ) (g := []) (by decide +kernel) rfl rfl ?_
    refine aw_icmp_gt (off := 18) (tgt := 78) (by decide +kernel) (by decide) (fun c1 => ?_) (fun c1 => ?_)
    · rw [if_pos c1] at h
      refine aw_seq [(.iinc 3 1, 3, (axI 1))] (pc' := 81) (L' := [some (aR 2 0 67), some (aR 10 0 w), some (aR 9 0 59), some (aI (v3 + 1)), some (aI v4)]) (stk' := []) (σ' := σ) (g := []) (by decide +kernel) rfl rfl ?_
      refine aw_goto (off := (-51)) (tgt := 30) (by decide +kernel) (by decide) ?_
      refine aw_forget (L' := [some (aR 2 0 67), some (aR 10 0 w), some (aR 9 0 59), some (aI (v3 + 1)), none]) (lsub_s (lsub_s (lsub_s (lsub_s (lsub_n (lsub_0)))))) ?_
      exact hrec_30 (v3 + 1) σ _ h
    · rw [if_neg c1] at h
      refine aw_seq [(.aload_n 0, 1, ax0), (.aload_n 1, 1, ax0), (.aload_n 2, 1, ax0), (.iload_n 3, 1, ax0), (.iload 4, 2, ax0)] (pc' := 69) (L' := [some (aR 2 0 67), some (aR 10 0 w), some (aR 9 0 59), some (aI v3), some (aI v4)]) (stk' := [aI v4, aI v3, aR 9 0 59, aR 10 0 w, aR 2 0 67]) (σ' := σ) (g := []) (by decide +kernel) rfl rfl ?_
      obtain ⟨σ2, h1, h⟩ := bndV_some h
      refine aw_cV (P' := pX2_markAll) (idx := 68) (d' := 2) (c := 2) (n := 0) (k := 67) [aR 10 0 w, aR 9 0 59, aI v3, aI v4] [] (ov := none) (stk2 := []) okp_X2_markAll (by decide +kernel) ml_RX2_68 vok_X2_markAll (by decide) rfl nar_X2_markAll (by decide) rfl (Nat.le_of_ble_eq_true rfl) (ok_X2_markAll h1) rfl ?_
      refine aw_seq [(.iinc 4 1, 3, (axI 1))] (pc' := 75) (L' := [some (aR 2 0 67), some (aR 10 0 w), some (aR 9 0 59), some (aI v3), some (aI (v4 + 1))]) (stk' := []) (σ' := σ2) (g := []) (by decide +kernel) rfl rfl ?_
      refine aw_goto (off := (-21)) (tgt := 54) (by decide +kernel) (by decide) ?_
      refine aw_forget (L' := [some (aR 2 0 67), some (aR 10 0 w), some (aR 9 0 59), some (aI v3), some (aI (v4 + 1))]) (lsub_s (lsub_s (lsub_s (lsub_s (lsub_s (lsub_0)))))) ?_
      exact ih v3 (v4 + 1) σ2 _ h
def f_X2_gather_30 (w : Nat)  : Nat → Int32 → Sg → Option Sg
  | 0, _, _ => none
  | fu + 1, v3, σ =>
    if (σ.1 (w + 1) 0) ≤ v3 then (
      some σ
    ) else (
      bndV (f_X2_narrow w v3 σ) fun σ4 =>
      f_X2_gather_54 w (f_X2_gather_30 w fu) FU v3 (σ4.1 67 2) σ4
    )
set_option maxRecDepth 100000 in
set_option maxHeartbeats 4000000 in
theorem ok_X2_gather_30 {κ : Kd} {w : Nat}   : ∀ (fu : Nat) (v3 : Int32) (σ : Sg) (q : Sg), f_X2_gather_30 w fu v3 σ = some q → AW κ pX2_gather 3 (none, q) 30 [some (aR 2 0 67), some (aR 10 0 w), some (aR 9 0 59), some (aI v3), none] [] σ := by
  intro fu
  induction fu with
  | zero =>
    intro v3 σ q h
    unfold f_X2_gather_30 at h
    cases h
  | succ fu ih =>
    intro v3 σ q h
    unfold f_X2_gather_30 at h
    refine aw_seq [(.iload_n 3, 1, ax0), (.aload_n 1, 1, ax0), (.getfield 59, 3, (axF 10 0 (2, 1, 8, some 0))), (.getfield 63, 3, (axF 8 0 (0, 0, 0, none)))] (pc' := 38) (L' := [some (aR 2 0 67), some (aR 10 0 w), some (aR 9 0 59), some (aI v3), none]) (stk' := [aI (σ.1 (w + 1) 0), aI v3]) (σ' := σ) (g := []) (by decide +kernel) rfl rfl ?_
    refine aw_icmp_ge (off := 46) (tgt := 84) (by decide +kernel) (by decide) (fun c1 => ?_) (fun c1 => ?_)
    · rw [if_pos c1] at h
      cases h
      exact aw_vret rfl (by decide +kernel)
    · rw [if_neg c1] at h
      refine aw_seq [(.aload_n 0, 1, ax0), (.aload_n 1, 1, ax0), (.aload_n 2, 1, ax0), (.iload_n 3, 1, ax0)] (pc' := 45) (L' := [some (aR 2 0 67), some (aR 10 0 w), some (aR 9 0 59), some (aI v3), none]) (stk' := [aI v3, aR 9 0 59, aR 10 0 w, aR 2 0 67]) (σ' := σ) (g := []) (by decide +kernel) rfl rfl ?_
      obtain ⟨σ4, h3, h⟩ := bndV_some h
      refine aw_cV (P' := pX2_narrow) (idx := 18) (d' := 2) (c := 2) (n := 0) (k := 67) [aR 10 0 w, aR 9 0 59, aI v3] [] (ov := none) (stk2 := []) okp_X2_narrow (by decide +kernel) ml_RX2_18 vok_X2_narrow (by decide) rfl nar_X2_narrow (by decide) rfl (Nat.le_of_ble_eq_true rfl) (ok_X2_narrow h3) rfl ?_
      refine aw_seq [(.aload_n 0, 1, ax0), (.getfield 26, 3, (axF 2 2 (0, 0, 0, none))), (.istore 4, 2, ax0)] (pc' := 54) (L' := [some (aR 2 0 67), some (aR 10 0 w), some (aR 9 0 59), some (aI v3), some (aI (σ4.1 67 2))]) (stk' := []) (σ' := σ4) (g := []) (by decide +kernel) rfl rfl ?_
      refine aw_forget (L' := [some (aR 2 0 67), some (aR 10 0 w), some (aR 9 0 59), some (aI v3), some (aI (σ4.1 67 2))]) (lsub_s (lsub_s (lsub_s (lsub_s (lsub_s (lsub_0)))))) ?_
      exact ok_X2_gather_54 ih FU v3 (σ4.1 67 2) σ4 _ h
def f_X2_gather_2 (w : Nat)  : Nat → Int32 → Sg → Option Sg
  | 0, _, _ => none
  | fu + 1, v3, σ =>
    if 8 ≤ v3 then (
      f_X2_gather_30 w FU 0 σ
    ) else (
      grd (inb v3 8 && true) <|
      ltσ (wL σ 68 (ix v3) 0) fun σ5 =>
      grd (inb v3 8 && true) <|
      ltσ (wL σ5 69 (ix v3) 0) fun σ7 =>
      (f_X2_gather_2 w fu) (v3 + 1) σ7
    )
set_option maxRecDepth 100000 in
set_option maxHeartbeats 4000000 in
theorem ok_X2_gather_2 {κ : Kd} {w : Nat}   : ∀ (fu : Nat) (v3 : Int32) (σ : Sg) (q : Sg), f_X2_gather_2 w fu v3 σ = some q → AW κ pX2_gather 3 (none, q) 2 [some (aR 2 0 67), some (aR 10 0 w), some (aR 9 0 59), some (aI v3), none] [] σ := by
  intro fu
  induction fu with
  | zero =>
    intro v3 σ q h
    unfold f_X2_gather_2 at h
    cases h
  | succ fu ih =>
    intro v3 σ q h
    unfold f_X2_gather_2 at h
    refine aw_seq [(.iload_n 3, 1, ax0), (.bipush 8, 2, (axI 8))] (pc' := 5) (L' := [some (aR 2 0 67), some (aR 10 0 w), some (aR 9 0 59), some (aI v3), none]) (stk' := [aI 8, aI v3]) (σ' := σ) (g := []) (by decide +kernel) rfl rfl ?_
    refine aw_icmp_ge (off := 23) (tgt := 28) (by decide +kernel) (by decide) (fun c1 => ?_) (fun c1 => ?_)
    · rw [if_pos c1] at h
      refine aw_seq [(.iconst 0, 1, (axI 0)), (.istore_n 3, 1, ax0)] (pc' := 30) (L' := [some (aR 2 0 67), some (aR 10 0 w), some (aR 9 0 59), some (aI 0), none]) (stk' := []) (σ' := σ) (g := []) (by decide +kernel) rfl rfl ?_
      refine aw_forget (L' := [some (aR 2 0 67), some (aR 10 0 w), some (aR 9 0 59), some (aI 0), none]) (lsub_s (lsub_s (lsub_s (lsub_s (lsub_n (lsub_0)))))) ?_
      exact ok_X2_gather_30 FU 0 σ _ h
    · rw [if_neg c1] at h
      obtain ⟨hg, h⟩ := grd_some h
      obtain ⟨σ5, e6, h⟩ := ltσ_some h
      refine aw_seq [(.aload_n 0, 1, ax0), (.getfield 9, 3, (axF 2 0 (2, 1, 14, some 8))), (.iload_n 3, 1, ax0), (.lconst 0, 1, (axL 0)), (.lastore, 1, ax0)] (pc' := 15) (L' := [some (aR 2 0 67), some (aR 10 0 w), some (aR 9 0 59), some (aI v3), none]) (stk' := []) (σ' := σ5) (g := [inb v3 8]) (by decide +kernel) (by rw [e6]; rfl) hg ?_
      obtain ⟨hg, h⟩ := grd_some h
      obtain ⟨σ7, e8, h⟩ := ltσ_some h
      refine aw_seq [(.aload_n 0, 1, ax0), (.getfield 15, 3, (axF 2 1 (2, 2, 14, some 8))), (.iload_n 3, 1, ax0), (.lconst 0, 1, (axL 0)), (.lastore, 1, ax0)] (pc' := 22) (L' := [some (aR 2 0 67), some (aR 10 0 w), some (aR 9 0 59), some (aI v3), none]) (stk' := []) (σ' := σ7) (g := [inb v3 8]) (by decide +kernel) (by rw [e8]; rfl) hg ?_
      refine aw_seq [(.iinc 3 1, 3, (axI 1))] (pc' := 25) (L' := [some (aR 2 0 67), some (aR 10 0 w), some (aR 9 0 59), some (aI (v3 + 1)), none]) (stk' := []) (σ' := σ7) (g := []) (by decide +kernel) rfl rfl ?_
      refine aw_goto (off := (-23)) (tgt := 2) (by decide +kernel) (by decide) ?_
      refine aw_forget (L' := [some (aR 2 0 67), some (aR 10 0 w), some (aR 9 0 59), some (aI (v3 + 1)), none]) (lsub_s (lsub_s (lsub_s (lsub_s (lsub_n (lsub_0)))))) ?_
      exact ih (v3 + 1) σ7 _ h
def f_X2_gather (w : Nat) (σ : Sg) : Option Sg :=
  f_X2_gather_2 w FU 0 σ
set_option maxRecDepth 100000 in
set_option maxHeartbeats 4000000 in
theorem ok_X2_gather {κ : Kd} {w : Nat} {σ : Sg} {q : Sg} (h : f_X2_gather w σ = some q) : AMet κ pX2_gather 3 [aR 2 0 67, aR 10 0 w, aR 9 0 59] σ (none, q) := by
  unfold f_X2_gather at h
  refine amet_of okp_X2_gather [(false, aR 2 0 67), (false, aR 10 0 w), (false, aR 9 0 59)] (List.forall_mem_cons.mpr ⟨rfl, List.forall_mem_cons.mpr ⟨rfl, List.forall_mem_cons.mpr ⟨rfl, (fun _ hn => absurd hn List.not_mem_nil)⟩⟩⟩) 2 rfl ?_
  show AW κ pX2_gather 3 (none, q) 0 [some (aR 2 0 67), some (aR 10 0 w), some (aR 9 0 59), none, none] [] σ
  refine aw_seq [(.iconst 0, 1, (axI 0)), (.istore_n 3, 1, ax0)] (pc' := 2) (L' := [some (aR 2 0 67), some (aR 10 0 w), some (aR 9 0 59), some (aI 0), none]) (stk' := []) (σ' := σ) (g := []) (by decide +kernel) rfl rfl ?_
  refine aw_forget (L' := [some (aR 2 0 67), some (aR 10 0 w), some (aR 9 0 59), some (aI 0), none]) (lsub_s (lsub_s (lsub_s (lsub_s (lsub_n (lsub_0)))))) ?_
  exact ok_X2_gather_2 FU 0 σ _ h
def f_J13_bitCount_95d88 (v0 : Int64) (σ : Sg) : Option (Int32 × Sg) :=
  some (((Int64.toInt32 ((((((((v0 - ((lushr v0 1) &&& 6148914691236517205)) &&& 3689348814741910323) + ((lushr (v0 - ((lushr v0 1) &&& 6148914691236517205)) 2) &&& 3689348814741910323)) + (lushr (((v0 - ((lushr v0 1) &&& 6148914691236517205)) &&& 3689348814741910323) + ((lushr (v0 - ((lushr v0 1) &&& 6148914691236517205)) 2) &&& 3689348814741910323)) 4)) &&& 1085102592571150095) + (lushr (((((v0 - ((lushr v0 1) &&& 6148914691236517205)) &&& 3689348814741910323) + ((lushr (v0 - ((lushr v0 1) &&& 6148914691236517205)) 2) &&& 3689348814741910323)) + (lushr (((v0 - ((lushr v0 1) &&& 6148914691236517205)) &&& 3689348814741910323) + ((lushr (v0 - ((lushr v0 1) &&& 6148914691236517205)) 2) &&& 3689348814741910323)) 4)) &&& 1085102592571150095) 8)) + (lushr ((((((v0 - ((lushr v0 1) &&& 6148914691236517205)) &&& 3689348814741910323) + ((lushr (v0 - ((lushr v0 1) &&& 6148914691236517205)) 2) &&& 3689348814741910323)) + (lushr (((v0 - ((lushr v0 1) &&& 6148914691236517205)) &&& 3689348814741910323) + ((lushr (v0 - ((lushr v0 1) &&& 6148914691236517205)) 2) &&& 3689348814741910323)) 4)) &&& 1085102592571150095) + (lushr (((((v0 - ((lushr v0 1) &&& 6148914691236517205)) &&& 3689348814741910323) + ((lushr (v0 - ((lushr v0 1) &&& 6148914691236517205)) 2) &&& 3689348814741910323)) + (lushr (((v0 - ((lushr v0 1) &&& 6148914691236517205)) &&& 3689348814741910323) + ((lushr (v0 - ((lushr v0 1) &&& 6148914691236517205)) 2) &&& 3689348814741910323)) 4)) &&& 1085102592571150095) 8)) 16)) + (lushr (((((((v0 - ((lushr v0 1) &&& 6148914691236517205)) &&& 3689348814741910323) + ((lushr (v0 - ((lushr v0 1) &&& 6148914691236517205)) 2) &&& 3689348814741910323)) + (lushr (((v0 - ((lushr v0 1) &&& 6148914691236517205)) &&& 3689348814741910323) + ((lushr (v0 - ((lushr v0 1) &&& 6148914691236517205)) 2) &&& 3689348814741910323)) 4)) &&& 1085102592571150095) + (lushr (((((v0 - ((lushr v0 1) &&& 6148914691236517205)) &&& 3689348814741910323) + ((lushr (v0 - ((lushr v0 1) &&& 6148914691236517205)) 2) &&& 3689348814741910323)) + (lushr (((v0 - ((lushr v0 1) &&& 6148914691236517205)) &&& 3689348814741910323) + ((lushr (v0 - ((lushr v0 1) &&& 6148914691236517205)) 2) &&& 3689348814741910323)) 4)) &&& 1085102592571150095) 8)) + (lushr ((((((v0 - ((lushr v0 1) &&& 6148914691236517205)) &&& 3689348814741910323) + ((lushr (v0 - ((lushr v0 1) &&& 6148914691236517205)) 2) &&& 3689348814741910323)) + (lushr (((v0 - ((lushr v0 1) &&& 6148914691236517205)) &&& 3689348814741910323) + ((lushr (v0 - ((lushr v0 1) &&& 6148914691236517205)) 2) &&& 3689348814741910323)) 4)) &&& 1085102592571150095) + (lushr (((((v0 - ((lushr v0 1) &&& 6148914691236517205)) &&& 3689348814741910323) + ((lushr (v0 - ((lushr v0 1) &&& 6148914691236517205)) 2) &&& 3689348814741910323)) + (lushr (((v0 - ((lushr v0 1) &&& 6148914691236517205)) &&& 3689348814741910323) + ((lushr (v0 - ((lushr v0 1) &&& 6148914691236517205)) 2) &&& 3689348814741910323)) 4)) &&& 1085102592571150095) 8)) 16)) 32))) &&& 127), σ)
set_option maxRecDepth 100000 in
set_option maxHeartbeats 4000000 in
theorem ok_J13_bitCount_95d88 {κ : Kd} {v0 : Int64} {σ : Sg} {q : (Int32 × Sg)} (h : f_J13_bitCount_95d88 v0 σ = some q) : AMet κ pJ13_bitCount_95d88 1 [aL v0] σ (some (aI q.1), q.2) := by
  unfold f_J13_bitCount_95d88 at h
  refine amet_of okp_J13_bitCount_95d88 [(true, aL v0)] (List.forall_mem_cons.mpr ⟨rfl, (fun _ hn => absurd hn List.not_mem_nil)⟩) 0 rfl ?_
  show AW κ pJ13_bitCount_95d88 1 (some (aI q.1), q.2) 0 [some (aL v0), none] [] σ
  refine aw_seq [(.lload_n 0, 1, ax0), (.lload_n 0, 1, ax0), (.iconst 1, 1, (axI 1)), (.lushr, 1, ax0), (.ldc2_w 314, 3, (axL 6148914691236517205)), (.land, 1, ax0), (.lsub, 1, ax0), (.lstore_n 0, 1, ax0), (.lload_n 0, 1, ax0), (.ldc2_w 316, 3, (axL 3689348814741910323)), (.land, 1, ax0), (.lload_n 0, 1, ax0), (.iconst 2, 1, (axI 2)), (.lushr, 1, ax0), (.ldc2_w 316, 3, (axL 3689348814741910323)), (.land, 1, ax0), (.ladd, 1, ax0), (.lstore_n 0, 1, ax0), (.lload_n 0, 1, ax0), (.lload_n 0, 1, ax0), (.iconst 4, 1, (axI 4)), (.lushr, 1, ax0), (.ladd, 1, ax0), (.ldc2_w 318, 3, (axL 1085102592571150095)), (.land, 1, ax0), (.lstore_n 0, 1, ax0), (.lload_n 0, 1, ax0), (.lload_n 0, 1, ax0), (.bipush 8, 2, (axI 8)), (.lushr, 1, ax0), (.ladd, 1, ax0), (.lstore_n 0, 1, ax0), (.lload_n 0, 1, ax0), (.lload_n 0, 1, ax0), (.bipush 16, 2, (axI 16)), (.lushr, 1, ax0), (.ladd, 1, ax0), (.lstore_n 0, 1, ax0), (.lload_n 0, 1, ax0), (.lload_n 0, 1, ax0), (.bipush 32, 2, (axI 32)), (.lushr, 1, ax0), (.ladd, 1, ax0), (.lstore_n 0, 1, ax0), (.lload_n 0, 1, ax0), (.l2i, 1, ax0), (.bipush 127, 2, (axI 127)), (.iand, 1, ax0)] (pc' := 60) (L' := [some (aL ((((((((v0 - ((lushr v0 1) &&& 6148914691236517205)) &&& 3689348814741910323) + ((lushr (v0 - ((lushr v0 1) &&& 6148914691236517205)) 2) &&& 3689348814741910323)) + (lushr (((v0 - ((lushr v0 1) &&& 6148914691236517205)) &&& 3689348814741910323) + ((lushr (v0 - ((lushr v0 1) &&& 6148914691236517205)) 2) &&& 3689348814741910323)) 4)) &&& 1085102592571150095) + (lushr (((((v0 - ((lushr v0 1) &&& 6148914691236517205)) &&& 3689348814741910323) + ((lushr (v0 - ((lushr v0 1) &&& 6148914691236517205)) 2) &&& 3689348814741910323)) + (lushr (((v0 - ((lushr v0 1) &&& 6148914691236517205)) &&& 3689348814741910323) + ((lushr (v0 - ((lushr v0 1) &&& 6148914691236517205)) 2) &&& 3689348814741910323)) 4)) &&& 1085102592571150095) 8)) + (lushr ((((((v0 - ((lushr v0 1) &&& 6148914691236517205)) &&& 3689348814741910323) + ((lushr (v0 - ((lushr v0 1) &&& 6148914691236517205)) 2) &&& 3689348814741910323)) + (lushr (((v0 - ((lushr v0 1) &&& 6148914691236517205)) &&& 3689348814741910323) + ((lushr (v0 - ((lushr v0 1) &&& 6148914691236517205)) 2) &&& 3689348814741910323)) 4)) &&& 1085102592571150095) + (lushr (((((v0 - ((lushr v0 1) &&& 6148914691236517205)) &&& 3689348814741910323) + ((lushr (v0 - ((lushr v0 1) &&& 6148914691236517205)) 2) &&& 3689348814741910323)) + (lushr (((v0 - ((lushr v0 1) &&& 6148914691236517205)) &&& 3689348814741910323) + ((lushr (v0 - ((lushr v0 1) &&& 6148914691236517205)) 2) &&& 3689348814741910323)) 4)) &&& 1085102592571150095) 8)) 16)) + (lushr (((((((v0 - ((lushr v0 1) &&& 6148914691236517205)) &&& 3689348814741910323) + ((lushr (v0 - ((lushr v0 1) &&& 6148914691236517205)) 2) &&& 3689348814741910323)) + (lushr (((v0 - ((lushr v0 1) &&& 6148914691236517205)) &&& 3689348814741910323) + ((lushr (v0 - ((lushr v0 1) &&& 6148914691236517205)) 2) &&& 3689348814741910323)) 4)) &&& 1085102592571150095) + (lushr (((((v0 - ((lushr v0 1) &&& 6148914691236517205)) &&& 3689348814741910323) + ((lushr (v0 - ((lushr v0 1) &&& 6148914691236517205)) 2) &&& 3689348814741910323)) + (lushr (((v0 - ((lushr v0 1) &&& 6148914691236517205)) &&& 3689348814741910323) + ((lushr (v0 - ((lushr v0 1) &&& 6148914691236517205)) 2) &&& 3689348814741910323)) 4)) &&& 1085102592571150095) 8)) + (lushr ((((((v0 - ((lushr v0 1) &&& 6148914691236517205)) &&& 3689348814741910323) + ((lushr (v0 - ((lushr v0 1) &&& 6148914691236517205)) 2) &&& 3689348814741910323)) + (lushr (((v0 - ((lushr v0 1) &&& 6148914691236517205)) &&& 3689348814741910323) + ((lushr (v0 - ((lushr v0 1) &&& 6148914691236517205)) 2) &&& 3689348814741910323)) 4)) &&& 1085102592571150095) + (lushr (((((v0 - ((lushr v0 1) &&& 6148914691236517205)) &&& 3689348814741910323) + ((lushr (v0 - ((lushr v0 1) &&& 6148914691236517205)) 2) &&& 3689348814741910323)) + (lushr (((v0 - ((lushr v0 1) &&& 6148914691236517205)) &&& 3689348814741910323) + ((lushr (v0 - ((lushr v0 1) &&& 6148914691236517205)) 2) &&& 3689348814741910323)) 4)) &&& 1085102592571150095) 8)) 16)) 32))), none]) (stk' := [aI ((Int64.toInt32 ((((((((v0 - ((lushr v0 1) &&& 6148914691236517205)) &&& 3689348814741910323) + ((lushr (v0 - ((lushr v0 1) &&& 6148914691236517205)) 2) &&& 3689348814741910323)) + (lushr (((v0 - ((lushr v0 1) &&& 6148914691236517205)) &&& 3689348814741910323) + ((lushr (v0 - ((lushr v0 1) &&& 6148914691236517205)) 2) &&& 3689348814741910323)) 4)) &&& 1085102592571150095) + (lushr (((((v0 - ((lushr v0 1) &&& 6148914691236517205)) &&& 3689348814741910323) + ((lushr (v0 - ((lushr v0 1) &&& 6148914691236517205)) 2) &&& 3689348814741910323)) + (lushr (((v0 - ((lushr v0 1) &&& 6148914691236517205)) &&& 3689348814741910323) + ((lushr (v0 - ((lushr v0 1) &&& 6148914691236517205)) 2) &&& 3689348814741910323)) 4)) &&& 1085102592571150095) 8)) + (lushr ((((((v0 - ((lushr v0 1) &&& 6148914691236517205)) &&& 3689348814741910323) + ((lushr (v0 - ((lushr v0 1) &&& 6148914691236517205)) 2) &&& 3689348814741910323)) + (lushr (((v0 - ((lushr v0 1) &&& 6148914691236517205)) &&& 3689348814741910323) + ((lushr (v0 - ((lushr v0 1) &&& 6148914691236517205)) 2) &&& 3689348814741910323)) 4)) &&& 1085102592571150095) + (lushr (((((v0 - ((lushr v0 1) &&& 6148914691236517205)) &&& 3689348814741910323) + ((lushr (v0 - ((lushr v0 1) &&& 6148914691236517205)) 2) &&& 3689348814741910323)) + (lushr (((v0 - ((lushr v0 1) &&& 6148914691236517205)) &&& 3689348814741910323) + ((lushr (v0 - ((lushr v0 1) &&& 6148914691236517205)) 2) &&& 3689348814741910323)) 4)) &&& 1085102592571150095) 8)) 16)) + (lushr (((((((v0 - ((lushr v0 1) &&& 6148914691236517205)) &&& 3689348814741910323) + ((lushr (v0 - ((lushr v0 1) &&& 6148914691236517205)) 2) &&& 3689348814741910323)) + (lushr (((v0 - ((lushr v0 1) &&& 6148914691236517205)) &&& 3689348814741910323) + ((lushr (v0 - ((lushr v0 1) &&& 6148914691236517205)) 2) &&& 3689348814741910323)) 4)) &&& 1085102592571150095) + (lushr (((((v0 - ((lushr v0 1) &&& 6148914691236517205)) &&& 3689348814741910323) + ((lushr (v0 - ((lushr v0 1) &&& 6148914691236517205)) 2) &&& 3689348814741910323)) + (lushr (((v0 - ((lushr v0 1) &&& 6148914691236517205)) &&& 3689348814741910323) + ((lushr (v0 - ((lushr v0 1) &&& 6148914691236517205)) 2) &&& 3689348814741910323)) 4)) &&& 1085102592571150095) 8)) + (lushr ((((((v0 - ((lushr v0 1) &&& 6148914691236517205)) &&& 3689348814741910323) + ((lushr (v0 - ((lushr v0 1) &&& 6148914691236517205)) 2) &&& 3689348814741910323)) + (lushr (((v0 - ((lushr v0 1) &&& 6148914691236517205)) &&& 3689348814741910323) + ((lushr (v0 - ((lushr v0 1) &&& 6148914691236517205)) 2) &&& 3689348814741910323)) 4)) &&& 1085102592571150095) + (lushr (((((v0 - ((lushr v0 1) &&& 6148914691236517205)) &&& 3689348814741910323) + ((lushr (v0 - ((lushr v0 1) &&& 6148914691236517205)) 2) &&& 3689348814741910323)) + (lushr (((v0 - ((lushr v0 1) &&& 6148914691236517205)) &&& 3689348814741910323) + ((lushr (v0 - ((lushr v0 1) &&& 6148914691236517205)) 2) &&& 3689348814741910323)) 4)) &&& 1085102592571150095) 8)) 16)) 32))) &&& 127)]) (σ' := σ) (g := []) (by decide +kernel) rfl rfl ?_
  cases h
  exact aw_iret rfl (by decide +kernel)
def f_X2_unlike (v1 : Int32) (σ : Sg) : Option (Int32 × Sg) :=
  grd (inb v1 8 && true) <|
  bnd (f_J13_bitCount_95d88 (σ.2.1 68 (ix v1)) σ) fun r3 σ2 =>
  grd (inb v1 8 && true) <|
  bnd (f_J13_bitCount_95d88 (σ2.2.1 69 (ix v1)) σ2) fun r6 σ5 =>
  some ((r3 + r6), σ5)
set_option maxRecDepth 100000 in
set_option maxHeartbeats 4000000 in
theorem ok_X2_unlike {κ : Kd} {v1 : Int32} {σ : Sg} {q : (Int32 × Sg)} (h : f_X2_unlike v1 σ = some q) : AMet κ pX2_unlike 2 [aR 2 0 67, aI v1] σ (some (aI q.1), q.2) := by
  unfold f_X2_unlike at h
  refine amet_of okp_X2_unlike [(false, aR 2 0 67), (false, aI v1)] (List.forall_mem_cons.mpr ⟨rfl, List.forall_mem_cons.mpr ⟨rfl, (fun _ hn => absurd hn List.not_mem_nil)⟩⟩) 0 rfl ?_
  show AW κ pX2_unlike 2 (some (aI q.1), q.2) 0 [some (aR 2 0 67), some (aI v1)] [] σ
  obtain ⟨hg, h⟩ := grd_some h
  refine aw_seq [(.aload_n 0, 1, ax0), (.getfield 9, 3, (axF 2 0 (2, 1, 14, some 8))), (.iload_n 1, 1, ax0), (.laload, 1, ax0)] (pc' := 6) (L' := [some (aR 2 0 67), some (aI v1)]) (stk' := [aL (σ.2.1 68 (ix v1))]) (σ' := σ) (g := [inb v1 8]) (by decide +kernel) rfl hg ?_
  obtain ⟨r3, σ2, h1, h⟩ := bnd_some h
  refine aw_cS (P' := pJ13_bitCount_95d88) (idx := 73) (d' := 1) [aL (σ.2.1 68 (ix v1))] [] (ov := (some (aI r3))) (stk2 := [aI r3]) okp_J13_bitCount_95d88 (by decide +kernel) ml_RX2_73 tok_J13_bitCount_95d88 nar_J13_bitCount_95d88 (by decide) rfl (Nat.le_of_ble_eq_true rfl) (ok_J13_bitCount_95d88 h1) rfl ?_
  obtain ⟨hg, h⟩ := grd_some h
  refine aw_seq [(.aload_n 0, 1, ax0), (.getfield 15, 3, (axF 2 1 (2, 2, 14, some 8))), (.iload_n 1, 1, ax0), (.laload, 1, ax0)] (pc' := 15) (L' := [some (aR 2 0 67), some (aI v1)]) (stk' := [aL (σ2.2.1 69 (ix v1)), aI r3]) (σ' := σ2) (g := [inb v1 8]) (by decide +kernel) rfl hg ?_
  obtain ⟨r6, σ5, h4, h⟩ := bnd_some h
  refine aw_cS (P' := pJ13_bitCount_95d88) (idx := 73) (d' := 1) [aL (σ2.2.1 69 (ix v1))] [aI r3] (ov := (some (aI r6))) (stk2 := [aI r6, aI r3]) okp_J13_bitCount_95d88 (by decide +kernel) ml_RX2_73 tok_J13_bitCount_95d88 nar_J13_bitCount_95d88 (by decide) rfl (Nat.le_of_ble_eq_true rfl) (ok_J13_bitCount_95d88 h4) rfl ?_
  refine aw_seq [(.iadd, 1, ax0)] (pc' := 19) (L' := [some (aR 2 0 67), some (aI v1)]) (stk' := [aI (r3 + r6)]) (σ' := σ5) (g := []) (by decide +kernel) rfl rfl ?_
  cases h
  exact aw_iret rfl (by decide +kernel)
def f_X11_whom_71  (rec_36 : Int32 → Int32 → Int32 → Sg → Option (Int32 × Sg)) (v1 : Int32) (v2 : Int32) (v3 : Int32) (σ : Sg) : Option (Int32 × Sg) :=
  rec_36 v1 v2 (v3 + 1) σ
set_option maxRecDepth 100000 in
set_option maxHeartbeats 4000000 in
theorem ok_X11_whom_71 {κ : Kd}   {rec_36 : Int32 → Int32 → Int32 → Sg → Option (Int32 × Sg)} (hrec_36 : ∀ (v1 : Int32) (v2 : Int32) (v3 : Int32) (σ : Sg) (q : (Int32 × Sg)), rec_36 v1 v2 v3 σ = some q → AW κ pX11_whom 4 (some (aI q.1), q.2) 36 [some (aR 11 0 0), some (aI v1), some (aI v2), some (aI v3), none] [] σ) : ∀ (v1 : Int32) (v2 : Int32) (v3 : Int32) (σ : Sg) (q : (Int32 × Sg)), f_X11_whom_71 rec_36 v1 v2 v3 σ = some q → AW κ pX11_whom 4 (some (aI q.1), q.2) 71 [some (aR 11 0 0), some (aI v1), some (aI v2), some (aI v3), none] [] σ := by
  intro v1 v2 v3 σ q h
  unfold f_X11_whom_71 at h
  refine aw_seq [(.iinc 3 1, 3, (axI 1))] (pc' := 74) (L' := [some (aR 11 0 0), some (aI v1), some (aI v2), some (aI (v3 + 1)), none]) (stk' := []) (σ' := σ) (g := []) (by decide +kernel) rfl rfl ?_
  refine aw_goto (off := (-38)) (tgt := 36) (by decide +kernel) (by decide) ?_
  refine aw_forget (L' := [some (aR 11 0 0), some (aI v1), some (aI v2), some (aI (v3 + 1)), none]) (lsub_s (lsub_s (lsub_s (lsub_s (lsub_n (lsub_0)))))) ?_
  exact hrec_36 v1 v2 (v3 + 1) σ _ h
def f_X11_whom_36   : Nat → Int32 → Int32 → Int32 → Sg → Option (Int32 × Sg)
  | 0, _, _, _, _ => none
  | fu + 1, v1, v2, v3, σ =>
    if (σ.1 2 0) ≤ v3 then (
      some (v1, σ)
    ) else (
      bnd (f_X2_unlike v3 σ) fun r3 σ2 =>
      if r3 ≤ v2 then (
        f_X11_whom_71 (f_X11_whom_36 fu) v1 v2 v3 σ2
      ) else (
        f_X11_whom_71 (f_X11_whom_36 fu) v3 r3 v3 σ2
      )
    )
set_option maxRecDepth 100000 in
set_option maxHeartbeats 4000000 in
theorem ok_X11_whom_36 {κ : Kd}    : ∀ (fu : Nat) (v1 : Int32) (v2 : Int32) (v3 : Int32) (σ : Sg) (q : (Int32 × Sg)), f_X11_whom_36 fu v1 v2 v3 σ = some q → AW κ pX11_whom 4 (some (aI q.1), q.2) 36 [some (aR 11 0 0), some (aI v1), some (aI v2), some (aI v3), none] [] σ := by
  intro fu
  induction fu with
  | zero =>
    intro v1 v2 v3 σ q h
    unfold f_X11_whom_36 at h
    cases h
  | succ fu ih =>
    intro v1 v2 v3 σ q h
    unfold f_X11_whom_36 at h
    refine aw_seq [(.iload_n 3, 1, ax0), (.aload_n 0, 1, ax0), (.getfield 10, 3, (axF 11 0 (2, 1, 10, some 0))), (.getfield 68, 3, (axF 10 0 (2, 1, 8, some 0))), (.getfield 312, 3, (axF 8 0 (0, 0, 0, none)))] (pc' := 47) (L' := [some (aR 11 0 0), some (aI v1), some (aI v2), some (aI v3), none]) (stk' := [aI (σ.1 2 0), aI v3]) (σ' := σ) (g := []) (by decide +kernel) rfl rfl ?_
    refine aw_icmp_ge (off := 30) (tgt := 77) (by decide +kernel) (by decide) (fun c1 => ?_) (fun c1 => ?_)
    · rw [if_pos c1] at h
      refine aw_seq [(.iload_n 1, 1, ax0)] (pc' := 78) (L' := [some (aR 11 0 0), some (aI v1), some (aI v2), some (aI v3), none]) (stk' := [aI v1]) (σ' := σ) (g := []) (by decide +kernel) rfl rfl ?_
      cases h
      exact aw_iret rfl (by decide +kernel)
    · rw [if_neg c1] at h
      refine aw_seq [(.aload_n 0, 1, ax0), (.getfield 57, 3, (axF 11 7 (2, 67, 2, some 0))), (.iload_n 3, 1, ax0)] (pc' := 55) (L' := [some (aR 11 0 0), some (aI v1), some (aI v2), some (aI v3), none]) (stk' := [aI v3, aR 2 0 67]) (σ' := σ) (g := []) (by decide +kernel) rfl rfl ?_
      obtain ⟨r3, σ2, h1, h⟩ := bnd_some h
      refine aw_cV (P' := pX2_unlike) (idx := 317) (d' := 2) (c := 2) (n := 0) (k := 67) [aI v3] [] (ov := (some (aI r3))) (stk2 := [aI r3]) okp_X2_unlike (by decide +kernel) ml_RX11_317 vok_X2_unlike (by decide) rfl nar_X2_unlike (by decide) rfl (Nat.le_of_ble_eq_true rfl) (ok_X2_unlike h1) rfl ?_
      refine aw_seq [(.istore 4, 2, ax0), (.iload 4, 2, ax0), (.iload_n 2, 1, ax0)] (pc' := 63) (L' := [some (aR 11 0 0), some (aI v1), some (aI v2), some (aI v3), some (aI r3)]) (stk' := [aI v2, aI r3]) (σ' := σ2) (g := []) (by decide +kernel) rfl rfl ?_
      refine aw_icmp_le (off := 8) (tgt := 71) (by decide +kernel) (by decide) (fun c1 => ?_) (fun c1 => ?_)
      · rw [if_pos c1] at h
        refine aw_forget (L' := [some (aR 11 0 0), some (aI v1), some (aI v2), some (aI v3), none]) (lsub_s (lsub_s (lsub_s (lsub_s (lsub_n (lsub_0)))))) ?_
        exact ok_X11_whom_71 ih v1 v2 v3 σ2 _ h
      · rw [if_neg c1] at h
        refine aw_seq [(.iload_n 3, 1, ax0), (.istore_n 1, 1, ax0), (.iload 4, 2, ax0), (.istore_n 2, 1, ax0)] (pc' := 71) (L' := [some (aR 11 0 0), some (aI v3), some (aI r3), some (aI v3), some (aI r3)]) (stk' := []) (σ' := σ2) (g := []) (by decide +kernel) rfl rfl ?_
        refine aw_forget (L' := [some (aR 11 0 0), some (aI v3), some (aI r3), some (aI v3), none]) (lsub_s (lsub_s (lsub_s (lsub_s (lsub_n (lsub_0)))))) ?_
        exact ok_X11_whom_71 ih v3 r3 v3 σ2 _ h
def f_X11_whom  (σ : Sg) : Option (Int32 × Sg) :=
  bndV (f_X9_measure 8 1 σ) fun σ5 =>
  bndV (f_X2_gather 1 σ5) fun σ7 =>
  f_X11_whom_36 FU (-1) 0 0 σ7
set_option maxRecDepth 100000 in
set_option maxHeartbeats 4000000 in
theorem ok_X11_whom {κ : Kd}  {σ : Sg} {q : (Int32 × Sg)} (h : f_X11_whom σ = some q) : AMet κ pX11_whom 4 [aR 11 0 0] σ (some (aI q.1), q.2) := by
  unfold f_X11_whom at h
  refine amet_of okp_X11_whom [(false, aR 11 0 0)] (List.forall_mem_cons.mpr ⟨rfl, (fun _ hn => absurd hn List.not_mem_nil)⟩) 4 rfl ?_
  show AW κ pX11_whom 4 (some (aI q.1), q.2) 0 [some (aR 11 0 0), none, none, none, none] [] σ
  refine aw_seq [(.aload_n 0, 1, ax0), (.getfield 43, 3, (axF 11 5 (2, 59, 9, some 0))), (.aload_n 0, 1, ax0), (.getfield 10, 3, (axF 11 0 (2, 1, 10, some 0))), (.getfield 83, 3, (axF 10 1 (2, 7, 5, some 0))), (.iconst 1, 1, (axI 1))] (pc' := 12) (L' := [some (aR 11 0 0), none, none, none, none]) (stk' := [aI 1, aR 5 0 8, aR 9 0 59]) (σ' := σ) (g := []) (by decide +kernel) rfl rfl ?_
  obtain ⟨σ5, h4, h⟩ := bndV_some h
  refine aw_cV (P' := pX9_measure) (idx := 246) (d' := 3) (c := 9) (n := 0) (k := 59) [aR 5 0 8, aI 1] [] (ov := none) (stk2 := []) okp_X9_measure (by decide +kernel) ml_RX11_246 vok_X9_measure (by decide) rfl nar_X9_measure (by decide) rfl (Nat.le_of_ble_eq_true rfl) (ok_X9_measure h4) rfl ?_
  refine aw_seq [(.aload_n 0, 1, ax0), (.getfield 57, 3, (axF 11 7 (2, 67, 2, some 0))), (.aload_n 0, 1, ax0), (.getfield 10, 3, (axF 11 0 (2, 1, 10, some 0))), (.aload_n 0, 1, ax0), (.getfield 43, 3, (axF 11 5 (2, 59, 9, some 0)))] (pc' := 27) (L' := [some (aR 11 0 0), none, none, none, none]) (stk' := [aR 9 0 59, aR 10 0 1, aR 2 0 67]) (σ' := σ5) (g := []) (by decide +kernel) rfl rfl ?_
  obtain ⟨σ7, h6, h⟩ := bndV_some h
  refine aw_cV (P' := pX2_gather) (idx := 313) (d' := 3) (c := 2) (n := 0) (k := 67) [aR 10 0 1, aR 9 0 59] [] (ov := none) (stk2 := []) okp_X2_gather (by decide +kernel) ml_RX11_313 vok_X2_gather (by decide) rfl nar_X2_gather (by decide) rfl (Nat.le_of_ble_eq_true rfl) (ok_X2_gather h6) rfl ?_
  refine aw_seq [(.iconst (-1), 1, (axI (-1))), (.istore_n 1, 1, ax0), (.iconst 0, 1, (axI 0)), (.istore_n 2, 1, ax0), (.iconst 0, 1, (axI 0)), (.istore_n 3, 1, ax0)] (pc' := 36) (L' := [some (aR 11 0 0), some (aI (-1)), some (aI 0), some (aI 0), none]) (stk' := []) (σ' := σ7) (g := []) (by decide +kernel) rfl rfl ?_
  refine aw_forget (L' := [some (aR 11 0 0), some (aI (-1)), some (aI 0), some (aI 0), none]) (lsub_s (lsub_s (lsub_s (lsub_s (lsub_n (lsub_0)))))) ?_
  exact ok_X11_whom_36 FU (-1) 0 0 σ7 _ h
def f_X11_bid_24    (σ : Sg) : Option (Int32 × Sg) :=
  some (0, σ)
set_option maxRecDepth 100000 in
set_option maxHeartbeats 4000000 in
theorem ok_X11_bid_24 {κ : Kd}    : ∀  (σ : Sg) (q : (Int32 × Sg)), f_X11_bid_24  σ = some q → AW κ pX11_bid 2 (some (aI q.1), q.2) 24 [none, none, none] [] σ := by
  intro  σ q h
  unfold f_X11_bid_24 at h
  refine aw_seq [(.iconst 0, 1, (axI 0))] (pc' := 25) (L' := [none, none, none]) (stk' := [aI 0]) (σ' := σ) (g := []) (by decide +kernel) rfl rfl ?_
  cases h
  exact aw_zret rfl bz_0 (by decide +kernel)
def f_X11_bid (v1 : Int32) (v2 : Int32) (σ : Sg) : Option (Int32 × Sg) :=
  bnd (f_X8_told 2 v1 σ) fun r3 σ2 =>
  if r3 = 0 then (
    f_X11_bid_24 σ2
  ) else (
    bnd (f_X11_within v2 0 99 σ2) fun r6 σ5 =>
    if r6 = 0 then (
      f_X11_bid_24 σ5
    ) else (
      grd (inb v1 8 && true) <|
      ltσ (wI σ5 15 (ix v1) v2) fun σ7 =>
      some (1, σ7)
    )
  )
set_option maxRecDepth 100000 in
set_option maxHeartbeats 4000000 in
theorem ok_X11_bid {κ : Kd} {v1 : Int32} {v2 : Int32} {σ : Sg} {q : (Int32 × Sg)} (h : f_X11_bid v1 v2 σ = some q) : AMet κ pX11_bid 2 [aR 11 0 0, aI v1, aI v2] σ (some (aI q.1), q.2) := by
  unfold f_X11_bid at h
  refine amet_of okp_X11_bid [(false, aR 11 0 0), (false, aI v1), (false, aI v2)] (List.forall_mem_cons.mpr ⟨rfl, List.forall_mem_cons.mpr ⟨rfl, List.forall_mem_cons.mpr ⟨rfl, (fun _ hn => absurd hn List.not_mem_nil)⟩⟩⟩) 0 rfl ?_
  show AW κ pX11_bid 2 (some (aI q.1), q.2) 0 [some (aR 11 0 0), some (aI v1), some (aI v2)] [] σ
  refine aw_seq [(.aload_n 0, 1, ax0), (.getfield 10, 3, (axF 11 0 (2, 1, 10, some 0))), (.getfield 68, 3, (axF 10 0 (2, 1, 8, some 0))), (.iload_n 1, 1, ax0)] (pc' := 8) (L' := [some (aR 11 0 0), some (aI v1), some (aI v2)]) (stk' := [aI v1, aR 8 0 2]) (σ' := σ) (g := []) (by decide +kernel) rfl rfl ?_
  obtain ⟨r3, σ2, h1, h⟩ := bnd_some h
  refine aw_cV (P' := pX8_told) (idx := 75) (d' := 1) (c := 8) (n := 0) (k := 2) [aI v1] [] (ov := (some (aI r3))) (stk2 := [aI r3]) okp_X8_told (by decide +kernel) ml_RX11_75 vok_X8_told (by decide) rfl nar_X8_told (by decide) rfl (Nat.le_of_ble_eq_true rfl) (ok_X8_told h1) rfl ?_
  refine aw_if_eq (off := 13) (tgt := 24) (by decide +kernel) (by decide) (fun c1 => ?_) (fun c1 => ?_)
  · rw [if_pos c1] at h
    refine aw_forget (L' := [none, none, none]) (lsub_n (lsub_n (lsub_n (lsub_0)))) ?_
    exact ok_X11_bid_24 σ2 _ h
  · rw [if_neg c1] at h
    refine aw_seq [(.iload_n 2, 1, ax0), (.iconst 0, 1, (axI 0)), (.bipush 99, 2, (axI 99))] (pc' := 18) (L' := [some (aR 11 0 0), some (aI v1), some (aI v2)]) (stk' := [aI 99, aI 0, aI v2]) (σ' := σ2) (g := []) (by decide +kernel) rfl rfl ?_
    obtain ⟨r6, σ5, h4, h⟩ := bnd_some h
    refine aw_cS (P' := pX11_within) (idx := 79) (d' := 1) [aI v2, aI 0, aI 99] [] (ov := (some (aI r6))) (stk2 := [aI r6]) okp_X11_within (by decide +kernel) ml_RX11_79 tok_X11_within nar_X11_within (by decide) rfl (Nat.le_of_ble_eq_true rfl) (ok_X11_within h4) rfl ?_
    refine aw_if_ne (off := 5) (tgt := 26) (by decide +kernel) (by decide) (fun c1 => ?_) (fun c1 => ?_)
    · rw [if_neg c1] at h
      obtain ⟨hg, h⟩ := grd_some h
      obtain ⟨σ7, e8, h⟩ := ltσ_some h
      refine aw_seq [(.aload_n 0, 1, ax0), (.getfield 10, 3, (axF 11 0 (2, 1, 10, some 0))), (.getfield 320, 3, (axF 10 7 (2, 14, 13, some 8))), (.iload_n 1, 1, ax0), (.iload_n 2, 1, ax0), (.iastore, 1, ax0)] (pc' := 36) (L' := [some (aR 11 0 0), some (aI v1), some (aI v2)]) (stk' := []) (σ' := σ7) (g := [inb v1 8]) (by decide +kernel) (by rw [e8]; rfl) hg ?_
      refine aw_seq [(.iconst 1, 1, (axI 1))] (pc' := 37) (L' := [some (aR 11 0 0), some (aI v1), some (aI v2)]) (stk' := [aI 1]) (σ' := σ7) (g := []) (by decide +kernel) rfl rfl ?_
      cases h
      exact aw_zret rfl bz_1 (by decide +kernel)
    · rw [if_pos c1] at h
      refine aw_forget (L' := [none, none, none]) (lsub_n (lsub_n (lsub_n (lsub_0)))) ?_
      exact ok_X11_bid_24 σ5 _ h
def f_X11_highestBidder_66  (rec_4 : Int32 → Int32 → Int32 → Sg → Option (Int32 × Sg)) (v1 : Int32) (v2 : Int32) (v3 : Int32) (σ : Sg) : Option (Int32 × Sg) :=
  rec_4 v1 v2 (v3 + 1) σ
set_option maxRecDepth 100000 in
set_option maxHeartbeats 4000000 in
theorem ok_X11_highestBidder_66 {κ : Kd}   {rec_4 : Int32 → Int32 → Int32 → Sg → Option (Int32 × Sg)} (hrec_4 : ∀ (v1 : Int32) (v2 : Int32) (v3 : Int32) (σ : Sg) (q : (Int32 × Sg)), rec_4 v1 v2 v3 σ = some q → AW κ pX11_highestBidder 1 (some (aI q.1), q.2) 4 [some (aR 11 0 0), some (aI v1), some (aI v2), some (aI v3), none] [] σ) : ∀ (v1 : Int32) (v2 : Int32) (v3 : Int32) (σ : Sg) (q : (Int32 × Sg)), f_X11_highestBidder_66 rec_4 v1 v2 v3 σ = some q → AW κ pX11_highestBidder 1 (some (aI q.1), q.2) 66 [some (aR 11 0 0), some (aI v1), some (aI v2), some (aI v3), none] [] σ := by
  intro v1 v2 v3 σ q h
  unfold f_X11_highestBidder_66 at h
  refine aw_seq [(.iinc 3 1, 3, (axI 1))] (pc' := 69) (L' := [some (aR 11 0 0), some (aI v1), some (aI v2), some (aI (v3 + 1)), none]) (stk' := []) (σ' := σ) (g := []) (by decide +kernel) rfl rfl ?_
  refine aw_goto (off := (-65)) (tgt := 4) (by decide +kernel) (by decide) ?_
  refine aw_forget (L' := [some (aR 11 0 0), some (aI v1), some (aI v2), some (aI (v3 + 1)), none]) (lsub_s (lsub_s (lsub_s (lsub_s (lsub_n (lsub_0)))))) ?_
  exact hrec_4 v1 v2 (v3 + 1) σ _ h
def f_X11_highestBidder_64  (rec_4 : Int32 → Int32 → Int32 → Sg → Option (Int32 × Sg)) (v1 : Int32) (v3 : Int32) (σ : Sg) : Option (Int32 × Sg) :=
  f_X11_highestBidder_66 rec_4 v1 v3 v3 σ
set_option maxRecDepth 100000 in
set_option maxHeartbeats 4000000 in
theorem ok_X11_highestBidder_64 {κ : Kd}   {rec_4 : Int32 → Int32 → Int32 → Sg → Option (Int32 × Sg)} (hrec_4 : ∀ (v1 : Int32) (v2 : Int32) (v3 : Int32) (σ : Sg) (q : (Int32 × Sg)), rec_4 v1 v2 v3 σ = some q → AW κ pX11_highestBidder 1 (some (aI q.1), q.2) 4 [some (aR 11 0 0), some (aI v1), some (aI v2), some (aI v3), none] [] σ) : ∀ (v1 : Int32) (v3 : Int32) (σ : Sg) (q : (Int32 × Sg)), f_X11_highestBidder_64 rec_4 v1 v3 σ = some q → AW κ pX11_highestBidder 1 (some (aI q.1), q.2) 64 [some (aR 11 0 0), some (aI v1), none, some (aI v3), none] [] σ := by
  intro v1 v3 σ q h
  unfold f_X11_highestBidder_64 at h
  refine aw_seq [(.iload_n 3, 1, ax0), (.istore_n 2, 1, ax0)] (pc' := 66) (L' := [some (aR 11 0 0), some (aI v1), some (aI v3), some (aI v3), none]) (stk' := []) (σ' := σ) (g := []) (by decide +kernel) rfl rfl ?_
  refine aw_forget (L' := [some (aR 11 0 0), some (aI v1), some (aI v3), some (aI v3), none]) (lsub_s (lsub_s (lsub_s (lsub_s (lsub_n (lsub_0)))))) ?_
  exact ok_X11_highestBidder_66 hrec_4 v1 v3 v3 σ _ h
def f_X11_highestBidder_31  (rec_4 : Int32 → Int32 → Int32 → Sg → Option (Int32 × Sg)) (v1 : Int32) (v2 : Int32) (v3 : Int32) (s0 : Int32) (σ : Sg) : Option (Int32 × Sg) :=
  if s0 = 0 then (
    f_X11_highestBidder_66 rec_4 v1 v2 v3 σ
  ) else (
    if v2 = (-1) then (
      f_X11_highestBidder_64 rec_4 v1 v3 σ
    ) else (
      grd (inb v3 8 && (inb v2 8 && true)) <|
      if (σ.1 15 (ix v3)) ≤ (σ.1 15 (ix v2)) then (
        f_X11_highestBidder_66 rec_4 v1 v2 v3 σ
      ) else (
        f_X11_highestBidder_64 rec_4 v1 v3 σ
      )
    )
  )
set_option maxRecDepth 100000 in
set_option maxHeartbeats 4000000 in
theorem ok_X11_highestBidder_31 {κ : Kd}   {rec_4 : Int32 → Int32 → Int32 → Sg → Option (Int32 × Sg)} (hrec_4 : ∀ (v1 : Int32) (v2 : Int32) (v3 : Int32) (σ : Sg) (q : (Int32 × Sg)), rec_4 v1 v2 v3 σ = some q → AW κ pX11_highestBidder 1 (some (aI q.1), q.2) 4 [some (aR 11 0 0), some (aI v1), some (aI v2), some (aI v3), none] [] σ) : ∀ (v1 : Int32) (v2 : Int32) (v3 : Int32) (s0 : Int32) (σ : Sg) (q : (Int32 × Sg)), f_X11_highestBidder_31 rec_4 v1 v2 v3 s0 σ = some q → AW κ pX11_highestBidder 1 (some (aI q.1), q.2) 31 [some (aR 11 0 0), some (aI v1), some (aI v2), some (aI v3), none] [aI s0] σ := by
  intro v1 v2 v3 s0 σ q h
  unfold f_X11_highestBidder_31 at h
  refine aw_seq [(.istore 4, 2, ax0), (.iload 4, 2, ax0)] (pc' := 35) (L' := [some (aR 11 0 0), some (aI v1), some (aI v2), some (aI v3), some (aI s0)]) (stk' := [aI s0]) (σ' := σ) (g := []) (by decide +kernel) rfl rfl ?_
  refine aw_if_eq (off := 31) (tgt := 66) (by decide +kernel) (by decide) (fun c1 => ?_) (fun c1 => ?_)
  · rw [if_pos c1] at h
    refine aw_forget (L' := [some (aR 11 0 0), some (aI v1), some (aI v2), some (aI v3), none]) (lsub_s (lsub_s (lsub_s (lsub_s (lsub_n (lsub_0)))))) ?_
    exact ok_X11_highestBidder_66 hrec_4 v1 v2 v3 σ _ h
  · rw [if_neg c1] at h
    refine aw_seq [(.iload_n 2, 1, ax0), (.iconst (-1), 1, (axI (-1)))] (pc' := 40) (L' := [some (aR 11 0 0), some (aI v1), some (aI v2), some (aI v3), some (aI s0)]) (stk' := [aI (-1), aI v2]) (σ' := σ) (g := []) (by decide +kernel) rfl rfl ?_
    refine aw_icmp_eq (off := 24) (tgt := 64) (by decide +kernel) (by decide) (fun c1 => ?_) (fun c1 => ?_)
    · rw [if_pos c1] at h
      refine aw_forget (L' := [some (aR 11 0 0), some (aI v1), none, some (aI v3), none]) (lsub_s (lsub_s (lsub_n (lsub_s (lsub_n (lsub_0)))))) ?_
      exact ok_X11_highestBidder_64 hrec_4 v1 v3 σ _ h
    · rw [if_neg c1] at h
      obtain ⟨hg, h⟩ := grd_some h
      refine aw_seq [(.aload_n 0, 1, ax0), (.getfield 10, 3, (axF 11 0 (2, 1, 10, some 0))), (.getfield 320, 3, (axF 10 7 (2, 14, 13, some 8))), (.iload_n 3, 1, ax0), (.iaload, 1, ax0), (.aload_n 0, 1, ax0), (.getfield 10, 3, (axF 11 0 (2, 1, 10, some 0))), (.getfield 320, 3, (axF 10 7 (2, 14, 13, some 8))), (.iload_n 2, 1, ax0), (.iaload, 1, ax0)] (pc' := 61) (L' := [some (aR 11 0 0), some (aI v1), some (aI v2), some (aI v3), some (aI s0)]) (stk' := [aI (σ.1 15 (ix v2)), aI (σ.1 15 (ix v3))]) (σ' := σ) (g := [inb v3 8, inb v2 8]) (by decide +kernel) rfl hg ?_
      refine aw_icmp_le (off := 5) (tgt := 66) (by decide +kernel) (by decide) (fun c1 => ?_) (fun c1 => ?_)
      · rw [if_pos c1] at h
        refine aw_forget (L' := [some (aR 11 0 0), some (aI v1), some (aI v2), some (aI v3), none]) (lsub_s (lsub_s (lsub_s (lsub_s (lsub_n (lsub_0)))))) ?_
        exact ok_X11_highestBidder_66 hrec_4 v1 v2 v3 σ _ h
      · rw [if_neg c1] at h
        refine aw_forget (L' := [some (aR 11 0 0), some (aI v1), none, some (aI v3), none]) (lsub_s (lsub_s (lsub_n (lsub_s (lsub_n (lsub_0)))))) ?_
        exact ok_X11_highestBidder_64 hrec_4 v1 v3 σ _ h
def f_X11_highestBidder_4   : Nat → Int32 → Int32 → Int32 → Sg → Option (Int32 × Sg)
  | 0, _, _, _, _ => none
  | fu + 1, v1, v2, v3, σ =>
    if (σ.1 2 0) ≤ v3 then (
      some (v2, σ)
    ) else (
      if ((shr v1 v3) &&& 1) = 0 then (
        f_X11_highestBidder_31 (f_X11_highestBidder_4 fu) v1 v2 v3 1 σ
      ) else (
        f_X11_highestBidder_31 (f_X11_highestBidder_4 fu) v1 v2 v3 0 σ
      )
    )
set_option maxRecDepth 100000 in
set_option maxHeartbeats 4000000 in
theorem ok_X11_highestBidder_4 {κ : Kd}    : ∀ (fu : Nat) (v1 : Int32) (v2 : Int32) (v3 : Int32) (σ : Sg) (q : (Int32 × Sg)), f_X11_highestBidder_4 fu v1 v2 v3 σ = some q → AW κ pX11_highestBidder 1 (some (aI q.1), q.2) 4 [some (aR 11 0 0), some (aI v1), some (aI v2), some (aI v3), none] [] σ := by
  intro fu
  induction fu with
  | zero =>
    intro v1 v2 v3 σ q h
    unfold f_X11_highestBidder_4 at h
    cases h
  | succ fu ih =>
    intro v1 v2 v3 σ q h
    unfold f_X11_highestBidder_4 at h
    refine aw_seq [(.iload_n 3, 1, ax0), (.aload_n 0, 1, ax0), (.getfield 10, 3, (axF 11 0 (2, 1, 10, some 0))), (.getfield 68, 3, (axF 10 0 (2, 1, 8, some 0))), (.getfield 312, 3, (axF 8 0 (0, 0, 0, none)))] (pc' := 15) (L' := [some (aR 11 0 0), some (aI v1), some (aI v2), some (aI v3), none]) (stk' := [aI (σ.1 2 0), aI v3]) (σ' := σ) (g := []) (by decide +kernel) rfl rfl ?_
    refine aw_icmp_ge (off := 57) (tgt := 72) (by decide +kernel) (by decide) (fun c1 => ?_) (fun c1 => ?_)
    · rw [if_pos c1] at h
      refine aw_seq [(.iload_n 2, 1, ax0)] (pc' := 73) (L' := [some (aR 11 0 0), some (aI v1), some (aI v2), some (aI v3), none]) (stk' := [aI v2]) (σ' := σ) (g := []) (by decide +kernel) rfl rfl ?_
      cases h
      exact aw_iret rfl (by decide +kernel)
    · rw [if_neg c1] at h
      refine aw_seq [(.iload_n 1, 1, ax0), (.iload_n 3, 1, ax0), (.ishr, 1, ax0), (.iconst 1, 1, (axI 1)), (.iand, 1, ax0)] (pc' := 23) (L' := [some (aR 11 0 0), some (aI v1), some (aI v2), some (aI v3), none]) (stk' := [aI ((shr v1 v3) &&& 1)]) (σ' := σ) (g := []) (by decide +kernel) rfl rfl ?_
      refine aw_if_ne (off := 7) (tgt := 30) (by decide +kernel) (by decide) (fun c1 => ?_) (fun c1 => ?_)
      · rw [if_neg c1] at h
        refine aw_seq [(.iconst 0, 1, (axI 0))] (pc' := 31) (L' := [some (aR 11 0 0), some (aI v1), some (aI v2), some (aI v3), none]) (stk' := [aI 0]) (σ' := σ) (g := []) (by decide +kernel) rfl rfl ?_
        refine aw_forget (L' := [some (aR 11 0 0), some (aI v1), some (aI v2), some (aI v3), none]) (lsub_s (lsub_s (lsub_s (lsub_s (lsub_n (lsub_0)))))) ?_
        exact ok_X11_highestBidder_31 ih v1 v2 v3 0 σ _ h
      · rw [if_pos c1] at h
        refine aw_seq [(.iconst 1, 1, (axI 1))] (pc' := 27) (L' := [some (aR 11 0 0), some (aI v1), some (aI v2), some (aI v3), none]) (stk' := [aI 1]) (σ' := σ) (g := []) (by decide +kernel) rfl rfl ?_
        refine aw_goto (off := 4) (tgt := 31) (by decide +kernel) (by decide) ?_
        refine aw_forget (L' := [some (aR 11 0 0), some (aI v1), some (aI v2), some (aI v3), none]) (lsub_s (lsub_s (lsub_s (lsub_s (lsub_n (lsub_0)))))) ?_
        exact ok_X11_highestBidder_31 ih v1 v2 v3 1 σ _ h
def f_X11_highestBidder (v1 : Int32) (σ : Sg) : Option (Int32 × Sg) :=
  f_X11_highestBidder_4 FU v1 (-1) 0 σ
set_option maxRecDepth 100000 in
set_option maxHeartbeats 4000000 in
theorem ok_X11_highestBidder {κ : Kd} {v1 : Int32} {σ : Sg} {q : (Int32 × Sg)} (h : f_X11_highestBidder v1 σ = some q) : AMet κ pX11_highestBidder 1 [aR 11 0 0, aI v1] σ (some (aI q.1), q.2) := by
  unfold f_X11_highestBidder at h
  refine amet_of okp_X11_highestBidder [(false, aR 11 0 0), (false, aI v1)] (List.forall_mem_cons.mpr ⟨rfl, List.forall_mem_cons.mpr ⟨rfl, (fun _ hn => absurd hn List.not_mem_nil)⟩⟩) 3 rfl ?_
  show AW κ pX11_highestBidder 1 (some (aI q.1), q.2) 0 [some (aR 11 0 0), some (aI v1), none, none, none] [] σ
  refine aw_seq [(.iconst (-1), 1, (axI (-1))), (.istore_n 2, 1, ax0), (.iconst 0, 1, (axI 0)), (.istore_n 3, 1, ax0)] (pc' := 4) (L' := [some (aR 11 0 0), some (aI v1), some (aI (-1)), some (aI 0), none]) (stk' := []) (σ' := σ) (g := []) (by decide +kernel) rfl rfl ?_
  refine aw_forget (L' := [some (aR 11 0 0), some (aI v1), some (aI (-1)), some (aI 0), none]) (lsub_s (lsub_s (lsub_s (lsub_s (lsub_n (lsub_0)))))) ?_
  exact ok_X11_highestBidder_4 FU v1 (-1) 0 σ _ h
def f_X11_leave_45  (rec_17 : Int32 → Int32 → Int32 → Int32 → Sg → Option (Int32 × Sg)) (v1 : Int32) (v2 : Int32) (v4 : Int32) (s0 : Int32) (s1 : Int32) (σ : Sg) : Option (Int32 × Sg) :=
  rec_17 v1 v2 (s0 ||| s1) (v4 + 1) σ
set_option maxRecDepth 100000 in
set_option maxHeartbeats 4000000 in
theorem ok_X11_leave_45 {κ : Kd}   {rec_17 : Int32 → Int32 → Int32 → Int32 → Sg → Option (Int32 × Sg)} (hrec_17 : ∀ (v1 : Int32) (v2 : Int32) (v3 : Int32) (v4 : Int32) (σ : Sg) (q : (Int32 × Sg)), rec_17 v1 v2 v3 v4 σ = some q → AW κ pX11_leave 2 (some (aI q.1), q.2) 17 [some (aR 11 0 0), some (aI v1), some (aI v2), some (aI v3), some (aI v4), none] [] σ) : ∀ (v1 : Int32) (v2 : Int32) (v4 : Int32) (s0 : Int32) (s1 : Int32) (σ : Sg) (q : (Int32 × Sg)), f_X11_leave_45 rec_17 v1 v2 v4 s0 s1 σ = some q → AW κ pX11_leave 2 (some (aI q.1), q.2) 45 [some (aR 11 0 0), some (aI v1), some (aI v2), none, some (aI v4), none] [aI s1, aI s0] σ := by
  intro v1 v2 v4 s0 s1 σ q h
  unfold f_X11_leave_45 at h
  refine aw_seq [(.ior, 1, ax0), (.istore_n 3, 1, ax0), (.iinc 4 1, 3, (axI 1))] (pc' := 50) (L' := [some (aR 11 0 0), some (aI v1), some (aI v2), some (aI (s0 ||| s1)), some (aI (v4 + 1)), none]) (stk' := []) (σ' := σ) (g := []) (by decide +kernel) rfl rfl ?_
  refine aw_goto (off := (-33)) (tgt := 17) (by decide +kernel) (by decide) ?_
  refine aw_forget (L' := [some (aR 11 0 0), some (aI v1), some (aI v2), some (aI (s0 ||| s1)), some (aI (v4 + 1)), none]) (lsub_s (lsub_s (lsub_s (lsub_s (lsub_s (lsub_n (lsub_0))))))) ?_
  exact hrec_17 v1 v2 (s0 ||| s1) (v4 + 1) σ _ h
def f_X11_leave_91   (s0 : Int32) (σ : Sg) : Option (Int32 × Sg) :=
  some (s0, σ)
set_option maxRecDepth 100000 in
set_option maxHeartbeats 4000000 in
theorem ok_X11_leave_91 {κ : Kd}    : ∀ (s0 : Int32) (σ : Sg) (q : (Int32 × Sg)), f_X11_leave_91 s0 σ = some q → AW κ pX11_leave 2 (some (aI q.1), q.2) 91 [none, none, none, none, none, none] [aI s0] σ := by
  intro s0 σ q h
  unfold f_X11_leave_91 at h
  cases h
  exact aw_iret rfl (by decide +kernel)
def f_X11_leave_17   : Nat → Int32 → Int32 → Int32 → Int32 → Sg → Option (Int32 × Sg)
  | 0, _, _, _, _, _ => none
  | fu + 1, v1, v2, v3, v4, σ =>
    if v1 ≤ v4 then (
      if v2 = 0 then (
        some (v3, σ)
      ) else (
        bnd (f_X11_highestBidder v3 σ) fun r3 σ2 =>
        bnd (f_X11_within r3 0 7 σ2) fun r6 σ5 =>
        if r6 = 0 then (
          f_X11_leave_91 0 σ5
        ) else (
          grd (inb r3 8 && true) <|
          f_X11_leave_91 (σ5.1 15 (ix r3)) σ5
        )
      )
    ) else (
      bnd (f_X11_highestBidder v3 σ) fun r9 σ8 =>
      if r9 = (-1) then (
        f_X11_leave_45 (f_X11_leave_17 fu) v1 v2 v4 v3 0 σ8
      ) else (
        f_X11_leave_45 (f_X11_leave_17 fu) v1 v2 v4 v3 (shl 1 r9) σ8
      )
    )
set_option maxRecDepth 100000 in
set_option maxHeartbeats 4000000 in
theorem ok_X11_leave_17 {κ : Kd}    : ∀ (fu : Nat) (v1 : Int32) (v2 : Int32) (v3 : Int32) (v4 : Int32) (σ : Sg) (q : (Int32 × Sg)), f_X11_leave_17 fu v1 v2 v3 v4 σ = some q → AW κ pX11_leave 2 (some (aI q.1), q.2) 17 [some (aR 11 0 0), some (aI v1), some (aI v2), some (aI v3), some (aI v4), none] [] σ := by
  intro fu
  induction fu with
  | zero =>
    intro v1 v2 v3 v4 σ q h
    unfold f_X11_leave_17 at h
    cases h
  | succ fu ih =>
    intro v1 v2 v3 v4 σ q h
    unfold f_X11_leave_17 at h
    refine aw_seq [(.iload 4, 2, ax0), (.iload_n 1, 1, ax0)] (pc' := 20) (L' := [some (aR 11 0 0), some (aI v1), some (aI v2), some (aI v3), some (aI v4), none]) (stk' := [aI v1, aI v4]) (σ' := σ) (g := []) (by decide +kernel) rfl rfl ?_
    refine aw_icmp_ge (off := 33) (tgt := 53) (by decide +kernel) (by decide) (fun c1 => ?_) (fun c1 => ?_)
    · rw [if_pos c1] at h
      refine aw_seq [(.iload_n 2, 1, ax0)] (pc' := 54) (L' := [some (aR 11 0 0), some (aI v1), some (aI v2), some (aI v3), some (aI v4), none]) (stk' := [aI v2]) (σ' := σ) (g := []) (by decide +kernel) rfl rfl ?_
      refine aw_if_ne (off := 5) (tgt := 59) (by decide +kernel) (by decide) (fun c1 => ?_) (fun c1 => ?_)
      · rw [if_neg c1] at h
        refine aw_seq [(.aload_n 0, 1, ax0), (.iload_n 3, 1, ax0)] (pc' := 61) (L' := [some (aR 11 0 0), some (aI v1), some (aI v2), some (aI v3), some (aI v4), none]) (stk' := [aI v3, aR 11 0 0]) (σ' := σ) (g := []) (by decide +kernel) rfl rfl ?_
        obtain ⟨r3, σ2, h1, h⟩ := bnd_some h
        refine aw_cV (P' := pX11_highestBidder) (idx := 323) (d' := 1) (c := 11) (n := 0) (k := 0) [aI v3] [] (ov := (some (aI r3))) (stk2 := [aI r3]) okp_X11_highestBidder (by decide +kernel) ml_RX11_323 vok_X11_highestBidder (by decide) rfl nar_X11_highestBidder (by decide) rfl (Nat.le_of_ble_eq_true rfl) (ok_X11_highestBidder h1) rfl ?_
        refine aw_seq [(.istore 4, 2, ax0), (.iload 4, 2, ax0), (.iconst 0, 1, (axI 0)), (.bipush 7, 2, (axI 7))] (pc' := 71) (L' := [some (aR 11 0 0), some (aI v1), some (aI v2), some (aI v3), some (aI r3), none]) (stk' := [aI 7, aI 0, aI r3]) (σ' := σ2) (g := []) (by decide +kernel) rfl rfl ?_
        obtain ⟨r6, σ5, h4, h⟩ := bnd_some h
        refine aw_cS (P' := pX11_within) (idx := 79) (d' := 1) [aI r3, aI 0, aI 7] [] (ov := (some (aI r6))) (stk2 := [aI r6]) okp_X11_within (by decide +kernel) ml_RX11_79 tok_X11_within nar_X11_within (by decide) rfl (Nat.le_of_ble_eq_true rfl) (ok_X11_within h4) rfl ?_
        refine aw_if_eq (off := 16) (tgt := 90) (by decide +kernel) (by decide) (fun c1 => ?_) (fun c1 => ?_)
        · rw [if_pos c1] at h
          refine aw_seq [(.iconst 0, 1, (axI 0))] (pc' := 91) (L' := [some (aR 11 0 0), some (aI v1), some (aI v2), some (aI v3), some (aI r3), none]) (stk' := [aI 0]) (σ' := σ5) (g := []) (by decide +kernel) rfl rfl ?_
          refine aw_forget (L' := [none, none, none, none, none, none]) (lsub_n (lsub_n (lsub_n (lsub_n (lsub_n (lsub_n (lsub_0))))))) ?_
          exact ok_X11_leave_91 0 σ5 _ h
        · rw [if_neg c1] at h
          obtain ⟨hg, h⟩ := grd_some h
          refine aw_seq [(.aload_n 0, 1, ax0), (.getfield 10, 3, (axF 11 0 (2, 1, 10, some 0))), (.getfield 320, 3, (axF 10 7 (2, 14, 13, some 8))), (.iload 4, 2, ax0), (.iaload, 1, ax0)] (pc' := 87) (L' := [some (aR 11 0 0), some (aI v1), some (aI v2), some (aI v3), some (aI r3), none]) (stk' := [aI (σ5.1 15 (ix r3))]) (σ' := σ5) (g := [inb r3 8]) (by decide +kernel) rfl hg ?_
          refine aw_goto (off := 4) (tgt := 91) (by decide +kernel) (by decide) ?_
          refine aw_forget (L' := [none, none, none, none, none, none]) (lsub_n (lsub_n (lsub_n (lsub_n (lsub_n (lsub_n (lsub_0))))))) ?_
          exact ok_X11_leave_91 (σ5.1 15 (ix r3)) σ5 _ h
      · rw [if_pos c1] at h
        refine aw_seq [(.iload_n 3, 1, ax0)] (pc' := 58) (L' := [some (aR 11 0 0), some (aI v1), some (aI v2), some (aI v3), some (aI v4), none]) (stk' := [aI v3]) (σ' := σ) (g := []) (by decide +kernel) rfl rfl ?_
        cases h
        exact aw_iret rfl (by decide +kernel)
    · rw [if_neg c1] at h
      refine aw_seq [(.aload_n 0, 1, ax0), (.iload_n 3, 1, ax0)] (pc' := 25) (L' := [some (aR 11 0 0), some (aI v1), some (aI v2), some (aI v3), some (aI v4), none]) (stk' := [aI v3, aR 11 0 0]) (σ' := σ) (g := []) (by decide +kernel) rfl rfl ?_
      obtain ⟨r9, σ8, h7, h⟩ := bnd_some h
      refine aw_cV (P' := pX11_highestBidder) (idx := 323) (d' := 1) (c := 11) (n := 0) (k := 0) [aI v3] [] (ov := (some (aI r9))) (stk2 := [aI r9]) okp_X11_highestBidder (by decide +kernel) ml_RX11_323 vok_X11_highestBidder (by decide) rfl nar_X11_highestBidder (by decide) rfl (Nat.le_of_ble_eq_true rfl) (ok_X11_highestBidder h7) rfl ?_
      refine aw_seq [(.istore 5, 2, ax0), (.iload_n 3, 1, ax0), (.iload 5, 2, ax0), (.iconst (-1), 1, (axI (-1)))] (pc' := 34) (L' := [some (aR 11 0 0), some (aI v1), some (aI v2), some (aI v3), some (aI v4), some (aI r9)]) (stk' := [aI (-1), aI r9, aI v3]) (σ' := σ8) (g := []) (by decide +kernel) rfl rfl ?_
      refine aw_icmp_ne (off := 7) (tgt := 41) (by decide +kernel) (by decide) (fun c1 => ?_) (fun c1 => ?_)
      · rw [if_neg c1] at h
        refine aw_seq [(.iconst 1, 1, (axI 1)), (.iload 5, 2, ax0), (.ishl, 1, ax0)] (pc' := 45) (L' := [some (aR 11 0 0), some (aI v1), some (aI v2), some (aI v3), some (aI v4), some (aI r9)]) (stk' := [aI (shl 1 r9), aI v3]) (σ' := σ8) (g := []) (by decide +kernel) rfl rfl ?_
        refine aw_forget (L' := [some (aR 11 0 0), some (aI v1), some (aI v2), none, some (aI v4), none]) (lsub_s (lsub_s (lsub_s (lsub_n (lsub_s (lsub_n (lsub_0))))))) ?_
        exact ok_X11_leave_45 ih v1 v2 v4 v3 (shl 1 r9) σ8 _ h
      · rw [if_pos c1] at h
        refine aw_seq [(.iconst 0, 1, (axI 0))] (pc' := 38) (L' := [some (aR 11 0 0), some (aI v1), some (aI v2), some (aI v3), some (aI v4), some (aI r9)]) (stk' := [aI 0, aI v3]) (σ' := σ8) (g := []) (by decide +kernel) rfl rfl ?_
        refine aw_goto (off := 7) (tgt := 45) (by decide +kernel) (by decide) ?_
        refine aw_forget (L' := [some (aR 11 0 0), some (aI v1), some (aI v2), none, some (aI v4), none]) (lsub_s (lsub_s (lsub_s (lsub_n (lsub_s (lsub_n (lsub_0))))))) ?_
        exact ok_X11_leave_45 ih v1 v2 v4 v3 0 σ8 _ h
def f_X11_leave (v1 : Int32) (v2 : Int32) (σ : Sg) : Option (Int32 × Sg) :=
  bnd (f_X11_within v1 0 8 σ) fun r12 σ11 =>
  if r12 = 0 then (
    some ((-1), σ11)
  ) else (
    f_X11_leave_17 FU v1 v2 0 0 σ11
  )
set_option maxRecDepth 100000 in
set_option maxHeartbeats 4000000 in
theorem ok_X11_leave {κ : Kd} {v1 : Int32} {v2 : Int32} {σ : Sg} {q : (Int32 × Sg)} (h : f_X11_leave v1 v2 σ = some q) : AMet κ pX11_leave 2 [aR 11 0 0, aI v1, aI v2] σ (some (aI q.1), q.2) := by
  unfold f_X11_leave at h
  refine amet_of okp_X11_leave [(false, aR 11 0 0), (false, aI v1), (false, aI v2)] (List.forall_mem_cons.mpr ⟨rfl, List.forall_mem_cons.mpr ⟨rfl, List.forall_mem_cons.mpr ⟨rfl, (fun _ hn => absurd hn List.not_mem_nil)⟩⟩⟩) 3 rfl ?_
  show AW κ pX11_leave 2 (some (aI q.1), q.2) 0 [some (aR 11 0 0), some (aI v1), some (aI v2), none, none, none] [] σ
  refine aw_seq [(.iload_n 1, 1, ax0), (.iconst 0, 1, (axI 0)), (.bipush 8, 2, (axI 8))] (pc' := 4) (L' := [some (aR 11 0 0), some (aI v1), some (aI v2), none, none, none]) (stk' := [aI 8, aI 0, aI v1]) (σ' := σ) (g := []) (by decide +kernel) rfl rfl ?_
  obtain ⟨r12, σ11, h10, h⟩ := bnd_some h
  refine aw_cS (P' := pX11_within) (idx := 79) (d' := 1) [aI v1, aI 0, aI 8] [] (ov := (some (aI r12))) (stk2 := [aI r12]) okp_X11_within (by decide +kernel) ml_RX11_79 tok_X11_within nar_X11_within (by decide) rfl (Nat.le_of_ble_eq_true rfl) (ok_X11_within h10) rfl ?_
  refine aw_if_ne (off := 5) (tgt := 12) (by decide +kernel) (by decide) (fun c1 => ?_) (fun c1 => ?_)
  · rw [if_neg c1] at h
    refine aw_seq [(.iconst 0, 1, (axI 0)), (.istore_n 3, 1, ax0), (.iconst 0, 1, (axI 0)), (.istore 4, 2, ax0)] (pc' := 17) (L' := [some (aR 11 0 0), some (aI v1), some (aI v2), some (aI 0), some (aI 0), none]) (stk' := []) (σ' := σ11) (g := []) (by decide +kernel) rfl rfl ?_
    refine aw_forget (L' := [some (aR 11 0 0), some (aI v1), some (aI v2), some (aI 0), some (aI 0), none]) (lsub_s (lsub_s (lsub_s (lsub_s (lsub_s (lsub_n (lsub_0))))))) ?_
    exact ok_X11_leave_17 FU v1 v2 0 0 σ11 _ h
  · rw [if_pos c1] at h
    refine aw_seq [(.iconst (-1), 1, (axI (-1)))] (pc' := 11) (L' := [some (aR 11 0 0), some (aI v1), some (aI v2), none, none, none]) (stk' := [aI (-1)]) (σ' := σ11) (g := []) (by decide +kernel) rfl rfl ?_
    cases h
    exact aw_iret rfl (by decide +kernel)
