/-! printed by wip/whole/gen4.py from the class file: again, warmth, ring, givenOf, giverOf, dawn, chain, largest, stone, seen -/
def f_X12_again_26    (σ : Sg) : Option (Int32 × Sg) :=
  some ((-1), σ)
set_option maxRecDepth 100000 in
set_option maxHeartbeats 4000000 in
theorem ok_X12_again_26 {κ : Kd}    : ∀  (σ : Sg) (q : (Int32 × Sg)), f_X12_again_26  σ = some q → AW κ pX12_again 5 (some (aI q.1), q.2) 26 [none, none, none, none, none] [] σ := by
  intro  σ q h
  unfold f_X12_again_26 at h
  refine aw_seq [(.iconst (-1), 1, (axI (-1)))] (pc' := 27) (L' := [none, none, none, none, none]) (stk' := [aI (-1)]) (σ' := σ) (g := []) (by decide +kernel) rfl rfl ?_
  cases h
  exact aw_iret rfl (by decide +kernel)
def f_X12_again_97  (rec_47 : Int32 → Int32 → Int32 → Int32 → Sg → Option (Int32 × Sg)) (v1 : Int32) (v2 : Int32) (v3 : Int32) (v4 : Int32) (σ : Sg) : Option (Int32 × Sg) :=
  rec_47 v1 v2 v3 (v4 + 1) σ
set_option maxRecDepth 100000 in
set_option maxHeartbeats 4000000 in
theorem ok_X12_again_97 {κ : Kd}   {rec_47 : Int32 → Int32 → Int32 → Int32 → Sg → Option (Int32 × Sg)} (hrec_47 : ∀ (v1 : Int32) (v2 : Int32) (v3 : Int32) (v4 : Int32) (σ : Sg) (q : (Int32 × Sg)), rec_47 v1 v2 v3 v4 σ = some q → AW κ pX12_again 5 (some (aI q.1), q.2) 47 [some (aR 12 0 0), some (aI v1), some (aI v2), some (aI v3), some (aI v4)] [] σ) : ∀ (v1 : Int32) (v2 : Int32) (v3 : Int32) (v4 : Int32) (σ : Sg) (q : (Int32 × Sg)), f_X12_again_97 rec_47 v1 v2 v3 v4 σ = some q → AW κ pX12_again 5 (some (aI q.1), q.2) 97 [some (aR 12 0 0), some (aI v1), some (aI v2), some (aI v3), some (aI v4)] [] σ := by
  intro v1 v2 v3 v4 σ q h
  unfold f_X12_again_97 at h
  refine aw_seq [(.iinc 4 1, 3, (axI 1))] (pc' := 100) (L' := [some (aR 12 0 0), some (aI v1), some (aI v2), some (aI v3), some (aI (v4 + 1))]) (stk' := []) (σ' := σ) (g := []) (by decide +kernel) rfl rfl ?_
  refine aw_goto (off := (-53)) (tgt := 47) (by decide +kernel) (by decide) ?_
  refine aw_forget (L' := [some (aR 12 0 0), some (aI v1), some (aI v2), some (aI v3), some (aI (v4 + 1))]) (lsub_s (lsub_s (lsub_s (lsub_s (lsub_s (lsub_0)))))) ?_
  exact hrec_47 v1 v2 v3 (v4 + 1) σ _ h
def f_X12_again_47  (rec_37 : Int32 → Int32 → Sg → Option (Int32 × Sg)) : Nat → Int32 → Int32 → Int32 → Int32 → Sg → Option (Int32 × Sg)
  | 0, _, _, _, _, _ => none
  | fu + 1, v1, v2, v3, v4, σ =>
    bnd (f_X12_has v2 v4 σ) fun r3 σ2 =>
    if r3 = 0 then (
      f_X12_again_97 (f_X12_again_47 rec_37 fu) v1 v2 v3 v4 σ2
    ) else (
      grd (inb ((8 * v3) + v4) 64 && (inb ((v2 &&& ((shl 1 v3) ^^^ (-1))) &&& ((shl 1 v4) ^^^ (-1))) 256 && (inb v2 256 && true))) <|
      if ((σ2.1 10 (ix ((8 * v3) + v4))) + (σ2.1 11 (ix ((v2 &&& ((shl 1 v3) ^^^ (-1))) &&& ((shl 1 v4) ^^^ (-1)))))) = (σ2.1 11 (ix v2)) then (
        if v1 = v3 then (
          some (v4, σ2)
        ) else (
          if v1 = v4 then (
            some (v3, σ2)
          ) else (
            rec_37 v1 (v2 &&& (((shl 1 v3) ^^^ (-1)) &&& ((shl 1 v4) ^^^ (-1)))) σ2
          )
        )
      ) else (
        f_X12_again_97 (f_X12_again_47 rec_37 fu) v1 v2 v3 v4 σ2
      )
    )
set_option maxRecDepth 100000 in
set_option maxHeartbeats 4000000 in
theorem ok_X12_again_47 {κ : Kd}   {rec_37 : Int32 → Int32 → Sg → Option (Int32 × Sg)} (hrec_37 : ∀ (v1 : Int32) (v2 : Int32) (σ : Sg) (q : (Int32 × Sg)), rec_37 v1 v2 σ = some q → AW κ pX12_again 5 (some (aI q.1), q.2) 37 [some (aR 12 0 0), some (aI v1), some (aI v2), none, none] [] σ) : ∀ (fu : Nat) (v1 : Int32) (v2 : Int32) (v3 : Int32) (v4 : Int32) (σ : Sg) (q : (Int32 × Sg)), f_X12_again_47 rec_37 fu v1 v2 v3 v4 σ = some q → AW κ pX12_again 5 (some (aI q.1), q.2) 47 [some (aR 12 0 0), some (aI v1), some (aI v2), some (aI v3), some (aI v4)] [] σ := by
  intro fu
  induction fu with
  | zero =>
    intro v1 v2 v3 v4 σ q h
    unfold f_X12_again_47 at h
    cases h
  | succ fu ih =>
    intro v1 v2 v3 v4 σ q h
    unfold f_X12_again_47 at h
    refine aw_seq [(.iload_n 2, 1, ax0), (.iload 4, 2, ax0)] (pc' := 50) (L' := [some (aR 12 0 0), some (aI v1), some (aI v2), some (aI v3), some (aI v4)]) (stk' := [aI v4, aI v2]) (σ' := σ) (g := []) (by decide +kernel) rfl rfl ?_
    obtain ⟨r3, σ2, h1, h⟩ := bnd_some h
    refine aw_cS (P' := pX12_has) (idx := 250) (d' := 1) [aI v2, aI v4] [] (ov := (some (aI r3))) (stk2 := [aI r3]) okp_X12_has (by decide +kernel) ml_RX12_250 tok_X12_has nar_X12_has (by decide) rfl (Nat.le_of_ble_eq_true rfl) (ok_X12_has h1) rfl ?_
    refine aw_if_eq (off := 44) (tgt := 97) (by decide +kernel) (by decide) (fun c1 => ?_) (fun c1 => ?_)
    · rw [if_pos c1] at h
      refine aw_forget (L' := [some (aR 12 0 0), some (aI v1), some (aI v2), some (aI v3), some (aI v4)]) (lsub_s (lsub_s (lsub_s (lsub_s (lsub_s (lsub_0)))))) ?_
      exact ok_X12_again_97 ih v1 v2 v3 v4 σ2 _ h
    · rw [if_neg c1] at h
      obtain ⟨hg, h⟩ := grd_some h
      refine aw_seq [(.aload_n 0, 1, ax0), (.getfield 50, 3, (axF 12 27 (2, 10, 13, some 64))), (.bipush 8, 2, (axI 8)), (.iload_n 3, 1, ax0), (.imul, 1, ax0), (.iload 4, 2, ax0), (.iadd, 1, ax0), (.iaload, 1, ax0), (.aload_n 0, 1, ax0), (.getfield 53, 3, (axF 12 28 (2, 11, 13, some 256))), (.iload_n 2, 1, ax0), (.iconst 1, 1, (axI 1)), (.iload_n 3, 1, ax0), (.ishl, 1, ax0), (.iconst (-1), 1, (axI (-1))), (.ixor, 1, ax0), (.iand, 1, ax0), (.iconst 1, 1, (axI 1)), (.iload 4, 2, ax0), (.ishl, 1, ax0), (.iconst (-1), 1, (axI (-1))), (.ixor, 1, ax0), (.iand, 1, ax0), (.iaload, 1, ax0), (.iadd, 1, ax0), (.aload_n 0, 1, ax0), (.getfield 53, 3, (axF 12 28 (2, 11, 13, some 256))), (.iload_n 2, 1, ax0), (.iaload, 1, ax0)] (pc' := 94) (L' := [some (aR 12 0 0), some (aI v1), some (aI v2), some (aI v3), some (aI v4)]) (stk' := [aI (σ2.1 11 (ix v2)), aI ((σ2.1 10 (ix ((8 * v3) + v4))) + (σ2.1 11 (ix ((v2 &&& ((shl 1 v3) ^^^ (-1))) &&& ((shl 1 v4) ^^^ (-1))))))]) (σ' := σ2) (g := [inb ((8 * v3) + v4) 64, inb ((v2 &&& ((shl 1 v3) ^^^ (-1))) &&& ((shl 1 v4) ^^^ (-1))) 256, inb v2 256]) (by decide +kernel) rfl hg ?_
      refine aw_icmp_eq (off := 9) (tgt := 103) (by decide +kernel) (by decide) (fun c1 => ?_) (fun c1 => ?_)
      · rw [if_pos c1] at h
        refine aw_seq [(.iload_n 1, 1, ax0), (.iload_n 3, 1, ax0)] (pc' := 105) (L' := [some (aR 12 0 0), some (aI v1), some (aI v2), some (aI v3), some (aI v4)]) (stk' := [aI v3, aI v1]) (σ' := σ2) (g := []) (by decide +kernel) rfl rfl ?_
        refine aw_icmp_ne (off := 6) (tgt := 111) (by decide +kernel) (by decide) (fun c1 => ?_) (fun c1 => ?_)
        · rw [if_neg c1] at h
          refine aw_seq [(.iload_n 1, 1, ax0), (.iload 4, 2, ax0)] (pc' := 114) (L' := [some (aR 12 0 0), some (aI v1), some (aI v2), some (aI v3), some (aI v4)]) (stk' := [aI v4, aI v1]) (σ' := σ2) (g := []) (by decide +kernel) rfl rfl ?_
          refine aw_icmp_ne (off := 5) (tgt := 119) (by decide +kernel) (by decide) (fun c1 => ?_) (fun c1 => ?_)
          · rw [if_neg c1] at h
            refine aw_seq [(.iload_n 2, 1, ax0), (.iconst 1, 1, (axI 1)), (.iload_n 3, 1, ax0), (.ishl, 1, ax0), (.iconst (-1), 1, (axI (-1))), (.ixor, 1, ax0), (.iconst 1, 1, (axI 1)), (.iload 4, 2, ax0), (.ishl, 1, ax0), (.iconst (-1), 1, (axI (-1))), (.ixor, 1, ax0), (.iand, 1, ax0), (.iand, 1, ax0), (.istore_n 2, 1, ax0)] (pc' := 134) (L' := [some (aR 12 0 0), some (aI v1), some (aI (v2 &&& (((shl 1 v3) ^^^ (-1)) &&& ((shl 1 v4) ^^^ (-1))))), some (aI v3), some (aI v4)]) (stk' := []) (σ' := σ2) (g := []) (by decide +kernel) rfl rfl ?_
            refine aw_goto (off := (-97)) (tgt := 37) (by decide +kernel) (by decide) ?_
            refine aw_forget (L' := [some (aR 12 0 0), some (aI v1), some (aI (v2 &&& (((shl 1 v3) ^^^ (-1)) &&& ((shl 1 v4) ^^^ (-1))))), none, none]) (lsub_s (lsub_s (lsub_s (lsub_n (lsub_n (lsub_0)))))) ?_
            exact hrec_37 v1 (v2 &&& (((shl 1 v3) ^^^ (-1)) &&& ((shl 1 v4) ^^^ (-1)))) σ2 _ h
          · rw [if_pos c1] at h
            refine aw_seq [(.iload_n 3, 1, ax0)] (pc' := 118) (L' := [some (aR 12 0 0), some (aI v1), some (aI v2), some (aI v3), some (aI v4)]) (stk' := [aI v3]) (σ' := σ2) (g := []) (by decide +kernel) rfl rfl ?_
            cases h
            exact aw_iret rfl (by decide +kernel)
        · rw [if_pos c1] at h
          refine aw_seq [(.iload 4, 2, ax0)] (pc' := 110) (L' := [some (aR 12 0 0), some (aI v1), some (aI v2), some (aI v3), some (aI v4)]) (stk' := [aI v4]) (σ' := σ2) (g := []) (by decide +kernel) rfl rfl ?_
          cases h
          exact aw_iret rfl (by decide +kernel)
      · rw [if_neg c1] at h
        refine aw_forget (L' := [some (aR 12 0 0), some (aI v1), some (aI v2), some (aI v3), some (aI v4)]) (lsub_s (lsub_s (lsub_s (lsub_s (lsub_s (lsub_0)))))) ?_
        exact ok_X12_again_97 ih v1 v2 v3 v4 σ2 _ h
def f_X12_again_37   : Nat → Int32 → Int32 → Sg → Option (Int32 × Sg)
  | 0, _, _, _ => none
  | fu + 1, v1, v2, σ =>
    bnd (f_X12_lowOf v2 σ) fun r6 σ5 =>
    f_X12_again_47 (f_X12_again_37 fu) FU v1 v2 r6 (r6 + 1) σ5
set_option maxRecDepth 100000 in
set_option maxHeartbeats 4000000 in
theorem ok_X12_again_37 {κ : Kd}    : ∀ (fu : Nat) (v1 : Int32) (v2 : Int32) (σ : Sg) (q : (Int32 × Sg)), f_X12_again_37 fu v1 v2 σ = some q → AW κ pX12_again 5 (some (aI q.1), q.2) 37 [some (aR 12 0 0), some (aI v1), some (aI v2), none, none] [] σ := by
  intro fu
  induction fu with
  | zero =>
    intro v1 v2 σ q h
    unfold f_X12_again_37 at h
    cases h
  | succ fu ih =>
    intro v1 v2 σ q h
    unfold f_X12_again_37 at h
    refine aw_seq [(.iload_n 2, 1, ax0)] (pc' := 38) (L' := [some (aR 12 0 0), some (aI v1), some (aI v2), none, none]) (stk' := [aI v2]) (σ' := σ) (g := []) (by decide +kernel) rfl rfl ?_
    obtain ⟨r6, σ5, h4, h⟩ := bnd_some h
    refine aw_cS (P' := pX12_lowOf) (idx := 434) (d' := 2) [aI v2] [] (ov := (some (aI r6))) (stk2 := [aI r6]) okp_X12_lowOf (by decide +kernel) ml_RX12_434 tok_X12_lowOf nar_X12_lowOf (by decide) rfl (Nat.le_of_ble_eq_true rfl) (ok_X12_lowOf h4) rfl ?_
    refine aw_seq [(.istore_n 3, 1, ax0), (.iload_n 3, 1, ax0), (.iconst 1, 1, (axI 1)), (.iadd, 1, ax0), (.istore 4, 2, ax0)] (pc' := 47) (L' := [some (aR 12 0 0), some (aI v1), some (aI v2), some (aI r6), some (aI (r6 + 1))]) (stk' := []) (σ' := σ5) (g := []) (by decide +kernel) rfl rfl ?_
    refine aw_forget (L' := [some (aR 12 0 0), some (aI v1), some (aI v2), some (aI r6), some (aI (r6 + 1))]) (lsub_s (lsub_s (lsub_s (lsub_s (lsub_s (lsub_0)))))) ?_
    exact ok_X12_again_47 ih FU v1 v2 r6 (r6 + 1) σ5 _ h
def f_X12_again (v1 : Int32) (σ : Sg) : Option (Int32 × Sg) :=
  bnd (f_X12_isHouse v1 σ) fun r9 σ8 =>
  if r9 = 0 then (
    f_X12_again_26 σ8
  ) else (
    bnd (f_X12_odd σ8) fun r12 σ11 =>
    bnd (f_X12_has r12 v1 σ11) fun r15 σ14 =>
    if r15 = 0 then (
      f_X12_again_26 σ14
    ) else (
      bnd (f_X12_isJoined σ14) fun r18 σ17 =>
      if r18 = 0 then (
        f_X12_again_26 σ17
      ) else (
        bndV (f_X12_layPairs σ17) fun σ20 =>
        bnd (f_X12_odd σ20) fun r23 σ22 =>
        f_X12_again_37 FU v1 r23 σ22
      )
    )
  )
set_option maxRecDepth 100000 in
set_option maxHeartbeats 4000000 in
theorem ok_X12_again {κ : Kd} {v1 : Int32} {σ : Sg} {q : (Int32 × Sg)} (h : f_X12_again v1 σ = some q) : AMet κ pX12_again 5 [aR 12 0 0, aI v1] σ (some (aI q.1), q.2) := by
  unfold f_X12_again at h
  refine amet_of okp_X12_again [(false, aR 12 0 0), (false, aI v1)] (List.forall_mem_cons.mpr ⟨rfl, List.forall_mem_cons.mpr ⟨rfl, (fun _ hn => absurd hn List.not_mem_nil)⟩⟩) 3 rfl ?_
  show AW κ pX12_again 5 (some (aI q.1), q.2) 0 [some (aR 12 0 0), some (aI v1), none, none, none] [] σ
  refine aw_seq [(.aload_n 0, 1, ax0), (.iload_n 1, 1, ax0)] (pc' := 2) (L' := [some (aR 12 0 0), some (aI v1), none, none, none]) (stk' := [aI v1, aR 12 0 0]) (σ' := σ) (g := []) (by decide +kernel) rfl rfl ?_
  obtain ⟨r9, σ8, h7, h⟩ := bnd_some h
  refine aw_cV (P' := pX12_isHouse) (idx := 88) (d' := 2) (c := 12) (n := 0) (k := 0) [aI v1] [] (ov := (some (aI r9))) (stk2 := [aI r9]) okp_X12_isHouse (by decide +kernel) ml_RX12_88 vok_X12_isHouse (by decide) rfl nar_X12_isHouse (by decide) rfl (Nat.le_of_ble_eq_true rfl) (ok_X12_isHouse h7) rfl ?_
  refine aw_if_eq (off := 21) (tgt := 26) (by decide +kernel) (by decide) (fun c1 => ?_) (fun c1 => ?_)
  · rw [if_pos c1] at h
    refine aw_forget (L' := [none, none, none, none, none]) (lsub_n (lsub_n (lsub_n (lsub_n (lsub_n (lsub_0)))))) ?_
    exact ok_X12_again_26 σ8 _ h
  · rw [if_neg c1] at h
    refine aw_seq [(.aload_n 0, 1, ax0)] (pc' := 9) (L' := [some (aR 12 0 0), some (aI v1), none, none, none]) (stk' := [aR 12 0 0]) (σ' := σ8) (g := []) (by decide +kernel) rfl rfl ?_
    obtain ⟨r12, σ11, h10, h⟩ := bnd_some h
    refine aw_cV (P' := pX12_odd) (idx := 440) (d' := 3) (c := 12) (n := 0) (k := 0) [] [] (ov := (some (aI r12))) (stk2 := [aI r12]) okp_X12_odd (by decide +kernel) ml_RX12_440 vok_X12_odd (by decide) rfl nar_X12_odd (by decide) rfl (Nat.le_of_ble_eq_true rfl) (ok_X12_odd h10) rfl ?_
    refine aw_seq [(.iload_n 1, 1, ax0)] (pc' := 13) (L' := [some (aR 12 0 0), some (aI v1), none, none, none]) (stk' := [aI v1, aI r12]) (σ' := σ11) (g := []) (by decide +kernel) rfl rfl ?_
    obtain ⟨r15, σ14, h13, h⟩ := bnd_some h
    refine aw_cS (P' := pX12_has) (idx := 250) (d' := 1) [aI r12, aI v1] [] (ov := (some (aI r15))) (stk2 := [aI r15]) okp_X12_has (by decide +kernel) ml_RX12_250 tok_X12_has nar_X12_has (by decide) rfl (Nat.le_of_ble_eq_true rfl) (ok_X12_has h13) rfl ?_
    refine aw_if_eq (off := 10) (tgt := 26) (by decide +kernel) (by decide) (fun c1 => ?_) (fun c1 => ?_)
    · rw [if_pos c1] at h
      refine aw_forget (L' := [none, none, none, none, none]) (lsub_n (lsub_n (lsub_n (lsub_n (lsub_n (lsub_0)))))) ?_
      exact ok_X12_again_26 σ14 _ h
    · rw [if_neg c1] at h
      refine aw_seq [(.aload_n 0, 1, ax0)] (pc' := 20) (L' := [some (aR 12 0 0), some (aI v1), none, none, none]) (stk' := [aR 12 0 0]) (σ' := σ14) (g := []) (by decide +kernel) rfl rfl ?_
      obtain ⟨r18, σ17, h16, h⟩ := bnd_some h
      refine aw_cV (P' := pX12_isJoined) (idx := 443) (d' := 4) (c := 12) (n := 0) (k := 0) [] [] (ov := (some (aI r18))) (stk2 := [aI r18]) okp_X12_isJoined (by decide +kernel) ml_RX12_443 vok_X12_isJoined (by decide) rfl nar_X12_isJoined (by decide) rfl (Nat.le_of_ble_eq_true rfl) (ok_X12_isJoined h16) rfl ?_
      refine aw_if_ne (off := 5) (tgt := 28) (by decide +kernel) (by decide) (fun c1 => ?_) (fun c1 => ?_)
      · rw [if_neg c1] at h
        refine aw_seq [(.aload_n 0, 1, ax0)] (pc' := 29) (L' := [some (aR 12 0 0), some (aI v1), none, none, none]) (stk' := [aR 12 0 0]) (σ' := σ17) (g := []) (by decide +kernel) rfl rfl ?_
        obtain ⟨σ20, h19, h⟩ := bndV_some h
        refine aw_cV (P' := pX12_layPairs) (idx := 446) (d' := 3) (c := 12) (n := 0) (k := 0) [] [] (ov := none) (stk2 := []) okp_X12_layPairs (by decide +kernel) ml_RX12_446 vok_X12_layPairs (by decide) rfl nar_X12_layPairs (by decide) rfl (Nat.le_of_ble_eq_true rfl) (ok_X12_layPairs h19) rfl ?_
        refine aw_seq [(.aload_n 0, 1, ax0)] (pc' := 33) (L' := [some (aR 12 0 0), some (aI v1), none, none, none]) (stk' := [aR 12 0 0]) (σ' := σ20) (g := []) (by decide +kernel) rfl rfl ?_
        obtain ⟨r23, σ22, h21, h⟩ := bnd_some h
        refine aw_cV (P' := pX12_odd) (idx := 440) (d' := 3) (c := 12) (n := 0) (k := 0) [] [] (ov := (some (aI r23))) (stk2 := [aI r23]) okp_X12_odd (by decide +kernel) ml_RX12_440 vok_X12_odd (by decide) rfl nar_X12_odd (by decide) rfl (Nat.le_of_ble_eq_true rfl) (ok_X12_odd h21) rfl ?_
        refine aw_seq [(.istore_n 2, 1, ax0)] (pc' := 37) (L' := [some (aR 12 0 0), some (aI v1), some (aI r23), none, none]) (stk' := []) (σ' := σ22) (g := []) (by decide +kernel) rfl rfl ?_
        refine aw_forget (L' := [some (aR 12 0 0), some (aI v1), some (aI r23), none, none]) (lsub_s (lsub_s (lsub_s (lsub_n (lsub_n (lsub_0)))))) ?_
        exact ok_X12_again_37 FU v1 r23 σ22 _ h
      · rw [if_pos c1] at h
        refine aw_forget (L' := [none, none, none, none, none]) (lsub_n (lsub_n (lsub_n (lsub_n (lsub_n (lsub_0)))))) ?_
        exact ok_X12_again_26 σ17 _ h
def f_X12_warmth_21    (σ : Sg) : Option (Int32 × Sg) :=
  some (0, σ)
set_option maxRecDepth 100000 in
set_option maxHeartbeats 4000000 in
theorem ok_X12_warmth_21 {κ : Kd}    : ∀  (σ : Sg) (q : (Int32 × Sg)), f_X12_warmth_21  σ = some q → AW κ pX12_warmth 2 (some (aI q.1), q.2) 21 [none, none, none] [] σ := by
  intro  σ q h
  unfold f_X12_warmth_21 at h
  refine aw_seq [(.iconst 0, 1, (axI 0))] (pc' := 22) (L' := [none, none, none]) (stk' := [aI 0]) (σ' := σ) (g := []) (by decide +kernel) rfl rfl ?_
  cases h
  exact aw_zret rfl bz_0 (by decide +kernel)
def f_X12_warmth (v1 : Int32) (v2 : Int32) (σ : Sg) : Option (Int32 × Sg) :=
  bnd (f_X12_isIn v1 0 23 σ) fun r3 σ2 =>
  if r3 = 0 then (
    f_X12_warmth_21 σ2
  ) else (
    bnd (f_X12_isIn v2 (-99) 99 σ2) fun r6 σ5 =>
    if r6 = 0 then (
      f_X12_warmth_21 σ5
    ) else (
      grd (inb (114 + v1) 1986 && true) <|
      ltσ (wI σ5 1 (ix (114 + v1)) v2) fun σ7 =>
      some (1, σ7)
    )
  )
set_option maxRecDepth 100000 in
set_option maxHeartbeats 4000000 in
theorem ok_X12_warmth {κ : Kd} {v1 : Int32} {v2 : Int32} {σ : Sg} {q : (Int32 × Sg)} (h : f_X12_warmth v1 v2 σ = some q) : AMet κ pX12_warmth 2 [aR 12 0 0, aI v1, aI v2] σ (some (aI q.1), q.2) := by
  unfold f_X12_warmth at h
  refine amet_of okp_X12_warmth [(false, aR 12 0 0), (false, aI v1), (false, aI v2)] (List.forall_mem_cons.mpr ⟨rfl, List.forall_mem_cons.mpr ⟨rfl, List.forall_mem_cons.mpr ⟨rfl, (fun _ hn => absurd hn List.not_mem_nil)⟩⟩⟩) 0 rfl ?_
  show AW κ pX12_warmth 2 (some (aI q.1), q.2) 0 [some (aR 12 0 0), some (aI v1), some (aI v2)] [] σ
  refine aw_seq [(.iload_n 1, 1, ax0), (.iconst 0, 1, (axI 0)), (.bipush 23, 2, (axI 23))] (pc' := 4) (L' := [some (aR 12 0 0), some (aI v1), some (aI v2)]) (stk' := [aI 23, aI 0, aI v1]) (σ' := σ) (g := []) (by decide +kernel) rfl rfl ?_
  obtain ⟨r3, σ2, h1, h⟩ := bnd_some h
  refine aw_cS (P' := pX12_isIn) (idx := 69) (d' := 1) [aI v1, aI 0, aI 23] [] (ov := (some (aI r3))) (stk2 := [aI r3]) okp_X12_isIn (by decide +kernel) ml_RX12_69 tok_X12_isIn nar_X12_isIn (by decide) rfl (Nat.le_of_ble_eq_true rfl) (ok_X12_isIn h1) rfl ?_
  refine aw_if_eq (off := 14) (tgt := 21) (by decide +kernel) (by decide) (fun c1 => ?_) (fun c1 => ?_)
  · rw [if_pos c1] at h
    refine aw_forget (L' := [none, none, none]) (lsub_n (lsub_n (lsub_n (lsub_0)))) ?_
    exact ok_X12_warmth_21 σ2 _ h
  · rw [if_neg c1] at h
    refine aw_seq [(.iload_n 2, 1, ax0), (.bipush (-99), 2, (axI (-99))), (.bipush 99, 2, (axI 99))] (pc' := 15) (L' := [some (aR 12 0 0), some (aI v1), some (aI v2)]) (stk' := [aI 99, aI (-99), aI v2]) (σ' := σ2) (g := []) (by decide +kernel) rfl rfl ?_
    obtain ⟨r6, σ5, h4, h⟩ := bnd_some h
    refine aw_cS (P' := pX12_isIn) (idx := 69) (d' := 1) [aI v2, aI (-99), aI 99] [] (ov := (some (aI r6))) (stk2 := [aI r6]) okp_X12_isIn (by decide +kernel) ml_RX12_69 tok_X12_isIn nar_X12_isIn (by decide) rfl (Nat.le_of_ble_eq_true rfl) (ok_X12_isIn h4) rfl ?_
    refine aw_if_ne (off := 5) (tgt := 23) (by decide +kernel) (by decide) (fun c1 => ?_) (fun c1 => ?_)
    · rw [if_neg c1] at h
      obtain ⟨hg, h⟩ := grd_some h
      obtain ⟨σ7, e8, h⟩ := ltσ_some h
      refine aw_seq [(.aload_n 0, 1, ax0), (.getfield 7, 3, (axF 12 0 (2, 1, 13, some 1986))), (.bipush 114, 2, (axI 114)), (.iload_n 1, 1, ax0), (.iadd, 1, ax0), (.iload_n 2, 1, ax0), (.iastore, 1, ax0)] (pc' := 33) (L' := [some (aR 12 0 0), some (aI v1), some (aI v2)]) (stk' := []) (σ' := σ7) (g := [inb (114 + v1) 1986]) (by decide +kernel) (by rw [e8]; rfl) hg ?_
      refine aw_seq [(.iconst 1, 1, (axI 1))] (pc' := 34) (L' := [some (aR 12 0 0), some (aI v1), some (aI v2)]) (stk' := [aI 1]) (σ' := σ7) (g := []) (by decide +kernel) rfl rfl ?_
      cases h
      exact aw_zret rfl bz_1 (by decide +kernel)
    · rw [if_pos c1] at h
      refine aw_forget (L' := [none, none, none]) (lsub_n (lsub_n (lsub_n (lsub_0)))) ?_
      exact ok_X12_warmth_21 σ5 _ h
def f_X12_ring_102  (rec_35 : Int32 → Int32 → Int32 → Int32 → Int32 → Int32 → Sg → Option (Int32 × Sg)) (v1 : Int32) (v2 : Int32) (v3 : Int32) (v4 : Int32) (v5 : Int32) (v6 : Int32) (σ : Sg) : Option (Int32 × Sg) :=
  rec_35 v1 v2 v3 v4 v5 (v6 + 1) σ
set_option maxRecDepth 100000 in
set_option maxHeartbeats 4000000 in
theorem ok_X12_ring_102 {κ : Kd}   {rec_35 : Int32 → Int32 → Int32 → Int32 → Int32 → Int32 → Sg → Option (Int32 × Sg)} (hrec_35 : ∀ (v1 : Int32) (v2 : Int32) (v3 : Int32) (v4 : Int32) (v5 : Int32) (v6 : Int32) (σ : Sg) (q : (Int32 × Sg)), rec_35 v1 v2 v3 v4 v5 v6 σ = some q → AW κ pX12_ring 2 (some (aI q.1), q.2) 35 [some (aR 12 0 0), some (aI v1), some (aI v2), some (aI v3), some (aI v4), some (aI v5), some (aI v6), none, none] [] σ) : ∀ (v1 : Int32) (v2 : Int32) (v3 : Int32) (v4 : Int32) (v5 : Int32) (v6 : Int32) (σ : Sg) (q : (Int32 × Sg)), f_X12_ring_102 rec_35 v1 v2 v3 v4 v5 v6 σ = some q → AW κ pX12_ring 2 (some (aI q.1), q.2) 102 [some (aR 12 0 0), some (aI v1), some (aI v2), some (aI v3), some (aI v4), some (aI v5), some (aI v6), none, none] [] σ := by
  intro v1 v2 v3 v4 v5 v6 σ q h
  unfold f_X12_ring_102 at h
  refine aw_seq [(.iinc 6 1, 3, (axI 1))] (pc' := 105) (L' := [some (aR 12 0 0), some (aI v1), some (aI v2), some (aI v3), some (aI v4), some (aI v5), some (aI (v6 + 1)), none, none]) (stk' := []) (σ' := σ) (g := []) (by decide +kernel) rfl rfl ?_
  refine aw_goto (off := (-70)) (tgt := 35) (by decide +kernel) (by decide) ?_
  refine aw_forget (L' := [some (aR 12 0 0), some (aI v1), some (aI v2), some (aI v3), some (aI v4), some (aI v5), some (aI (v6 + 1)), none, none]) (lsub_s (lsub_s (lsub_s (lsub_s (lsub_s (lsub_s (lsub_s (lsub_n (lsub_n (lsub_0)))))))))) ?_
  exact hrec_35 v1 v2 v3 v4 v5 (v6 + 1) σ _ h
def f_X12_ring_48  (rec_35 : Int32 → Int32 → Int32 → Int32 → Int32 → Int32 → Sg → Option (Int32 × Sg)) : Nat → Int32 → Int32 → Int32 → Int32 → Int32 → Int32 → Int32 → Int32 → Sg → Option (Int32 × Sg)
  | 0, _, _, _, _, _, _, _, _, _ => none
  | fu + 1, v1, v2, v3, v4, v5, v6, v7, v8, σ =>
    if v5 ≤ v8 then (
      if v7 < v4 then (
        f_X12_ring_102 rec_35 v1 v6 v5 v7 v5 v6 σ
      ) else (
        f_X12_ring_102 rec_35 v1 v2 v3 v4 v5 v6 σ
      )
    ) else (
      grd ((!decide ((24 : Int32) = 0)) && (inb (114 + (jrem (v6 + v8) 24)) 1986 && true)) <|
      (f_X12_ring_48 rec_35 fu) v1 v2 v3 v4 v5 v6 (v7 + (σ.1 1 (ix (114 + (jrem (v6 + v8) 24))))) (v8 + 1) σ
    )
set_option maxRecDepth 100000 in
set_option maxHeartbeats 4000000 in
theorem ok_X12_ring_48 {κ : Kd}   {rec_35 : Int32 → Int32 → Int32 → Int32 → Int32 → Int32 → Sg → Option (Int32 × Sg)} (hrec_35 : ∀ (v1 : Int32) (v2 : Int32) (v3 : Int32) (v4 : Int32) (v5 : Int32) (v6 : Int32) (σ : Sg) (q : (Int32 × Sg)), rec_35 v1 v2 v3 v4 v5 v6 σ = some q → AW κ pX12_ring 2 (some (aI q.1), q.2) 35 [some (aR 12 0 0), some (aI v1), some (aI v2), some (aI v3), some (aI v4), some (aI v5), some (aI v6), none, none] [] σ) : ∀ (fu : Nat) (v1 : Int32) (v2 : Int32) (v3 : Int32) (v4 : Int32) (v5 : Int32) (v6 : Int32) (v7 : Int32) (v8 : Int32) (σ : Sg) (q : (Int32 × Sg)), f_X12_ring_48 rec_35 fu v1 v2 v3 v4 v5 v6 v7 v8 σ = some q → AW κ pX12_ring 2 (some (aI q.1), q.2) 48 [some (aR 12 0 0), some (aI v1), some (aI v2), some (aI v3), some (aI v4), some (aI v5), some (aI v6), some (aI v7), some (aI v8)] [] σ := by
  intro fu
  induction fu with
  | zero =>
    intro v1 v2 v3 v4 v5 v6 v7 v8 σ q h
    unfold f_X12_ring_48 at h
    cases h
  | succ fu ih =>
    intro v1 v2 v3 v4 v5 v6 v7 v8 σ q h
    unfold f_X12_ring_48 at h
    refine aw_seq [(.iload 8, 2, ax0), (.iload 5, 2, ax0)] (pc' := 52) (L' := [some (aR 12 0 0), some (aI v1), some (aI v2), some (aI v3), some (aI v4), some (aI v5), some (aI v6), some (aI v7), some (aI v8)]) (stk' := [aI v5, aI v8]) (σ' := σ) (g := []) (by decide +kernel) rfl rfl ?_
    refine aw_icmp_ge (off := 30) (tgt := 82) (by decide +kernel) (by decide) (fun c1 => ?_) (fun c1 => ?_)
    · rw [if_pos c1] at h
      refine aw_seq [(.iload 7, 2, ax0), (.iload 4, 2, ax0)] (pc' := 86) (L' := [some (aR 12 0 0), some (aI v1), some (aI v2), some (aI v3), some (aI v4), some (aI v5), some (aI v6), some (aI v7), some (aI v8)]) (stk' := [aI v4, aI v7]) (σ' := σ) (g := []) (by decide +kernel) rfl rfl ?_
      refine aw_icmp_lt (off := 6) (tgt := 92) (by decide +kernel) (by decide) (fun c1 => ?_) (fun c1 => ?_)
      · rw [if_pos c1] at h
        refine aw_seq [(.iload 7, 2, ax0), (.istore 4, 2, ax0), (.iload 6, 2, ax0), (.istore_n 2, 1, ax0), (.iload 5, 2, ax0), (.istore_n 3, 1, ax0)] (pc' := 102) (L' := [some (aR 12 0 0), some (aI v1), some (aI v6), some (aI v5), some (aI v7), some (aI v5), some (aI v6), some (aI v7), some (aI v8)]) (stk' := []) (σ' := σ) (g := []) (by decide +kernel) rfl rfl ?_
        refine aw_forget (L' := [some (aR 12 0 0), some (aI v1), some (aI v6), some (aI v5), some (aI v7), some (aI v5), some (aI v6), none, none]) (lsub_s (lsub_s (lsub_s (lsub_s (lsub_s (lsub_s (lsub_s (lsub_n (lsub_n (lsub_0)))))))))) ?_
        exact ok_X12_ring_102 hrec_35 v1 v6 v5 v7 v5 v6 σ _ h
      · rw [if_neg c1] at h
        refine aw_goto (off := 13) (tgt := 102) (by decide +kernel) (by decide) ?_
        refine aw_forget (L' := [some (aR 12 0 0), some (aI v1), some (aI v2), some (aI v3), some (aI v4), some (aI v5), some (aI v6), none, none]) (lsub_s (lsub_s (lsub_s (lsub_s (lsub_s (lsub_s (lsub_s (lsub_n (lsub_n (lsub_0)))))))))) ?_
        exact ok_X12_ring_102 hrec_35 v1 v2 v3 v4 v5 v6 σ _ h
    · rw [if_neg c1] at h
      obtain ⟨hg, h⟩ := grd_some h
      refine aw_seq [(.iload 7, 2, ax0), (.aload_n 0, 1, ax0), (.getfield 7, 3, (axF 12 0 (2, 1, 13, some 1986))), (.bipush 114, 2, (axI 114)), (.iload 6, 2, ax0), (.iload 8, 2, ax0), (.iadd, 1, ax0), (.bipush 24, 2, (axI 24)), (.irem, 1, ax0), (.iadd, 1, ax0), (.iaload, 1, ax0), (.iadd, 1, ax0), (.istore 7, 2, ax0), (.iinc 8 1, 3, (axI 1))] (pc' := 79) (L' := [some (aR 12 0 0), some (aI v1), some (aI v2), some (aI v3), some (aI v4), some (aI v5), some (aI v6), some (aI (v7 + (σ.1 1 (ix (114 + (jrem (v6 + v8) 24)))))), some (aI (v8 + 1))]) (stk' := []) (σ' := σ) (g := [(!decide ((24 : Int32) = 0)), inb (114 + (jrem (v6 + v8) 24)) 1986]) (by decide +kernel) rfl hg ?_
      refine aw_goto (off := (-31)) (tgt := 48) (by decide +kernel) (by decide) ?_
      refine aw_forget (L' := [some (aR 12 0 0), some (aI v1), some (aI v2), some (aI v3), some (aI v4), some (aI v5), some (aI v6), some (aI (v7 + (σ.1 1 (ix (114 + (jrem (v6 + v8) 24)))))), some (aI (v8 + 1))]) (lsub_s (lsub_s (lsub_s (lsub_s (lsub_s (lsub_s (lsub_s (lsub_s (lsub_s (lsub_0)))))))))) ?_
      exact ih v1 v2 v3 v4 v5 v6 (v7 + (σ.1 1 (ix (114 + (jrem (v6 + v8) 24))))) (v8 + 1) σ _ h
def f_X12_ring_35  (rec_25 : Int32 → Int32 → Int32 → Int32 → Int32 → Sg → Option (Int32 × Sg)) : Nat → Int32 → Int32 → Int32 → Int32 → Int32 → Int32 → Sg → Option (Int32 × Sg)
  | 0, _, _, _, _, _, _, _ => none
  | fu + 1, v1, v2, v3, v4, v5, v6, σ =>
    if 24 ≤ v6 then (
      rec_25 v1 v2 v3 v4 (v5 + 1) σ
    ) else (
      f_X12_ring_48 (f_X12_ring_35 rec_25 fu) FU v1 v2 v3 v4 v5 v6 0 0 σ
    )
set_option maxRecDepth 100000 in
set_option maxHeartbeats 4000000 in
theorem ok_X12_ring_35 {κ : Kd}   {rec_25 : Int32 → Int32 → Int32 → Int32 → Int32 → Sg → Option (Int32 × Sg)} (hrec_25 : ∀ (v1 : Int32) (v2 : Int32) (v3 : Int32) (v4 : Int32) (v5 : Int32) (σ : Sg) (q : (Int32 × Sg)), rec_25 v1 v2 v3 v4 v5 σ = some q → AW κ pX12_ring 2 (some (aI q.1), q.2) 25 [some (aR 12 0 0), some (aI v1), some (aI v2), some (aI v3), some (aI v4), some (aI v5), none, none, none] [] σ) : ∀ (fu : Nat) (v1 : Int32) (v2 : Int32) (v3 : Int32) (v4 : Int32) (v5 : Int32) (v6 : Int32) (σ : Sg) (q : (Int32 × Sg)), f_X12_ring_35 rec_25 fu v1 v2 v3 v4 v5 v6 σ = some q → AW κ pX12_ring 2 (some (aI q.1), q.2) 35 [some (aR 12 0 0), some (aI v1), some (aI v2), some (aI v3), some (aI v4), some (aI v5), some (aI v6), none, none] [] σ := by
  intro fu
  induction fu with
  | zero =>
    intro v1 v2 v3 v4 v5 v6 σ q h
    unfold f_X12_ring_35 at h
    cases h
  | succ fu ih =>
    intro v1 v2 v3 v4 v5 v6 σ q h
    unfold f_X12_ring_35 at h
    refine aw_seq [(.iload 6, 2, ax0), (.bipush 24, 2, (axI 24))] (pc' := 39) (L' := [some (aR 12 0 0), some (aI v1), some (aI v2), some (aI v3), some (aI v4), some (aI v5), some (aI v6), none, none]) (stk' := [aI 24, aI v6]) (σ' := σ) (g := []) (by decide +kernel) rfl rfl ?_
    refine aw_icmp_ge (off := 69) (tgt := 108) (by decide +kernel) (by decide) (fun c1 => ?_) (fun c1 => ?_)
    · rw [if_pos c1] at h
      refine aw_seq [(.iinc 5 1, 3, (axI 1))] (pc' := 111) (L' := [some (aR 12 0 0), some (aI v1), some (aI v2), some (aI v3), some (aI v4), some (aI (v5 + 1)), some (aI v6), none, none]) (stk' := []) (σ' := σ) (g := []) (by decide +kernel) rfl rfl ?_
      refine aw_goto (off := (-86)) (tgt := 25) (by decide +kernel) (by decide) ?_
      refine aw_forget (L' := [some (aR 12 0 0), some (aI v1), some (aI v2), some (aI v3), some (aI v4), some (aI (v5 + 1)), none, none, none]) (lsub_s (lsub_s (lsub_s (lsub_s (lsub_s (lsub_s (lsub_n (lsub_n (lsub_n (lsub_0)))))))))) ?_
      exact hrec_25 v1 v2 v3 v4 (v5 + 1) σ _ h
    · rw [if_neg c1] at h
      refine aw_seq [(.iconst 0, 1, (axI 0)), (.istore 7, 2, ax0), (.iconst 0, 1, (axI 0)), (.istore 8, 2, ax0)] (pc' := 48) (L' := [some (aR 12 0 0), some (aI v1), some (aI v2), some (aI v3), some (aI v4), some (aI v5), some (aI v6), some (aI 0), some (aI 0)]) (stk' := []) (σ' := σ) (g := []) (by decide +kernel) rfl rfl ?_
      refine aw_forget (L' := [some (aR 12 0 0), some (aI v1), some (aI v2), some (aI v3), some (aI v4), some (aI v5), some (aI v6), some (aI 0), some (aI 0)]) (lsub_s (lsub_s (lsub_s (lsub_s (lsub_s (lsub_s (lsub_s (lsub_s (lsub_s (lsub_0)))))))))) ?_
      exact ok_X12_ring_48 ih FU v1 v2 v3 v4 v5 v6 0 0 σ _ h
def f_X12_ring_133   (s0 : Int32) (σ : Sg) : Option (Int32 × Sg) :=
  some (s0, σ)
set_option maxRecDepth 100000 in
set_option maxHeartbeats 4000000 in
theorem ok_X12_ring_133 {κ : Kd}    : ∀ (s0 : Int32) (σ : Sg) (q : (Int32 × Sg)), f_X12_ring_133 s0 σ = some q → AW κ pX12_ring 2 (some (aI q.1), q.2) 133 [none, none, none, none, none, none, none, none, none] [aI s0] σ := by
  intro s0 σ q h
  unfold f_X12_ring_133 at h
  cases h
  exact aw_iret rfl (by decide +kernel)
def f_X12_ring_25   : Nat → Int32 → Int32 → Int32 → Int32 → Int32 → Sg → Option (Int32 × Sg)
  | 0, _, _, _, _, _, _ => none
  | fu + 1, v1, v2, v3, v4, v5, σ =>
    if 24 ≤ v5 then (
      if v1 = 0 then (
        f_X12_ring_133 v2 σ
      ) else (
        if v1 = 1 then (
          f_X12_ring_133 v3 σ
        ) else (
          f_X12_ring_133 v4 σ
        )
      )
    ) else (
      f_X12_ring_35 (f_X12_ring_25 fu) FU v1 v2 v3 v4 v5 0 σ
    )
set_option maxRecDepth 100000 in
set_option maxHeartbeats 4000000 in
theorem ok_X12_ring_25 {κ : Kd}    : ∀ (fu : Nat) (v1 : Int32) (v2 : Int32) (v3 : Int32) (v4 : Int32) (v5 : Int32) (σ : Sg) (q : (Int32 × Sg)), f_X12_ring_25 fu v1 v2 v3 v4 v5 σ = some q → AW κ pX12_ring 2 (some (aI q.1), q.2) 25 [some (aR 12 0 0), some (aI v1), some (aI v2), some (aI v3), some (aI v4), some (aI v5), none, none, none] [] σ := by
  intro fu
  induction fu with
  | zero =>
    intro v1 v2 v3 v4 v5 σ q h
    unfold f_X12_ring_25 at h
    cases h
  | succ fu ih =>
    intro v1 v2 v3 v4 v5 σ q h
    unfold f_X12_ring_25 at h
    refine aw_seq [(.iload 5, 2, ax0), (.bipush 24, 2, (axI 24))] (pc' := 29) (L' := [some (aR 12 0 0), some (aI v1), some (aI v2), some (aI v3), some (aI v4), some (aI v5), none, none, none]) (stk' := [aI 24, aI v5]) (σ' := σ) (g := []) (by decide +kernel) rfl rfl ?_
    refine aw_icmp_ge (off := 85) (tgt := 114) (by decide +kernel) (by decide) (fun c1 => ?_) (fun c1 => ?_)
    · rw [if_pos c1] at h
      refine aw_seq [(.iload_n 1, 1, ax0)] (pc' := 115) (L' := [some (aR 12 0 0), some (aI v1), some (aI v2), some (aI v3), some (aI v4), some (aI v5), none, none, none]) (stk' := [aI v1]) (σ' := σ) (g := []) (by decide +kernel) rfl rfl ?_
      refine aw_if_ne (off := 7) (tgt := 122) (by decide +kernel) (by decide) (fun c1 => ?_) (fun c1 => ?_)
      · rw [if_neg c1] at h
        refine aw_seq [(.iload_n 1, 1, ax0), (.iconst 1, 1, (axI 1))] (pc' := 124) (L' := [some (aR 12 0 0), some (aI v1), some (aI v2), some (aI v3), some (aI v4), some (aI v5), none, none, none]) (stk' := [aI 1, aI v1]) (σ' := σ) (g := []) (by decide +kernel) rfl rfl ?_
        refine aw_icmp_ne (off := 7) (tgt := 131) (by decide +kernel) (by decide) (fun c1 => ?_) (fun c1 => ?_)
        · rw [if_neg c1] at h
          refine aw_seq [(.iload 4, 2, ax0)] (pc' := 133) (L' := [some (aR 12 0 0), some (aI v1), some (aI v2), some (aI v3), some (aI v4), some (aI v5), none, none, none]) (stk' := [aI v4]) (σ' := σ) (g := []) (by decide +kernel) rfl rfl ?_
          refine aw_forget (L' := [none, none, none, none, none, none, none, none, none]) (lsub_n (lsub_n (lsub_n (lsub_n (lsub_n (lsub_n (lsub_n (lsub_n (lsub_n (lsub_0)))))))))) ?_
          exact ok_X12_ring_133 v4 σ _ h
        · rw [if_pos c1] at h
          refine aw_seq [(.iload_n 3, 1, ax0)] (pc' := 128) (L' := [some (aR 12 0 0), some (aI v1), some (aI v2), some (aI v3), some (aI v4), some (aI v5), none, none, none]) (stk' := [aI v3]) (σ' := σ) (g := []) (by decide +kernel) rfl rfl ?_
          refine aw_goto (off := 5) (tgt := 133) (by decide +kernel) (by decide) ?_
          refine aw_forget (L' := [none, none, none, none, none, none, none, none, none]) (lsub_n (lsub_n (lsub_n (lsub_n (lsub_n (lsub_n (lsub_n (lsub_n (lsub_n (lsub_0)))))))))) ?_
          exact ok_X12_ring_133 v3 σ _ h
      · rw [if_pos c1] at h
        refine aw_seq [(.iload_n 2, 1, ax0)] (pc' := 119) (L' := [some (aR 12 0 0), some (aI v1), some (aI v2), some (aI v3), some (aI v4), some (aI v5), none, none, none]) (stk' := [aI v2]) (σ' := σ) (g := []) (by decide +kernel) rfl rfl ?_
        refine aw_goto (off := 14) (tgt := 133) (by decide +kernel) (by decide) ?_
        refine aw_forget (L' := [none, none, none, none, none, none, none, none, none]) (lsub_n (lsub_n (lsub_n (lsub_n (lsub_n (lsub_n (lsub_n (lsub_n (lsub_n (lsub_0)))))))))) ?_
        exact ok_X12_ring_133 v2 σ _ h
    · rw [if_neg c1] at h
      refine aw_seq [(.iconst 0, 1, (axI 0)), (.istore 6, 2, ax0)] (pc' := 35) (L' := [some (aR 12 0 0), some (aI v1), some (aI v2), some (aI v3), some (aI v4), some (aI v5), some (aI 0), none, none]) (stk' := []) (σ' := σ) (g := []) (by decide +kernel) rfl rfl ?_
      refine aw_forget (L' := [some (aR 12 0 0), some (aI v1), some (aI v2), some (aI v3), some (aI v4), some (aI v5), some (aI 0), none, none]) (lsub_s (lsub_s (lsub_s (lsub_s (lsub_s (lsub_s (lsub_s (lsub_n (lsub_n (lsub_0)))))))))) ?_
      exact ok_X12_ring_35 ih FU v1 v2 v3 v4 v5 0 σ _ h
def f_X12_ring (v1 : Int32) (σ : Sg) : Option (Int32 × Sg) :=
  bnd (f_X12_isIn v1 0 2 σ) fun r3 σ2 =>
  if r3 = 0 then (
    some ((-10000), σ2)
  ) else (
    f_X12_ring_25 FU v1 0 0 1000000 1 σ2
  )
set_option maxRecDepth 100000 in
set_option maxHeartbeats 4000000 in
theorem ok_X12_ring {κ : Kd} {v1 : Int32} {σ : Sg} {q : (Int32 × Sg)} (h : f_X12_ring v1 σ = some q) : AMet κ pX12_ring 2 [aR 12 0 0, aI v1] σ (some (aI q.1), q.2) := by
  unfold f_X12_ring at h
  refine amet_of okp_X12_ring [(false, aR 12 0 0), (false, aI v1)] (List.forall_mem_cons.mpr ⟨rfl, List.forall_mem_cons.mpr ⟨rfl, (fun _ hn => absurd hn List.not_mem_nil)⟩⟩) 7 rfl ?_
  show AW κ pX12_ring 2 (some (aI q.1), q.2) 0 [some (aR 12 0 0), some (aI v1), none, none, none, none, none, none, none] [] σ
  refine aw_seq [(.iload_n 1, 1, ax0), (.iconst 0, 1, (axI 0)), (.iconst 2, 1, (axI 2))] (pc' := 3) (L' := [some (aR 12 0 0), some (aI v1), none, none, none, none, none, none, none]) (stk' := [aI 2, aI 0, aI v1]) (σ' := σ) (g := []) (by decide +kernel) rfl rfl ?_
  obtain ⟨r3, σ2, h1, h⟩ := bnd_some h
  refine aw_cS (P' := pX12_isIn) (idx := 69) (d' := 1) [aI v1, aI 0, aI 2] [] (ov := (some (aI r3))) (stk2 := [aI r3]) okp_X12_isIn (by decide +kernel) ml_RX12_69 tok_X12_isIn nar_X12_isIn (by decide) rfl (Nat.le_of_ble_eq_true rfl) (ok_X12_isIn h1) rfl ?_
  refine aw_if_ne (off := 7) (tgt := 13) (by decide +kernel) (by decide) (fun c1 => ?_) (fun c1 => ?_)
  · rw [if_neg c1] at h
    refine aw_seq [(.iconst 0, 1, (axI 0)), (.istore_n 2, 1, ax0), (.iconst 0, 1, (axI 0)), (.istore_n 3, 1, ax0), (.ldc_w 430, 3, (axI 1000000)), (.istore 4, 2, ax0), (.iconst 1, 1, (axI 1)), (.istore 5, 2, ax0)] (pc' := 25) (L' := [some (aR 12 0 0), some (aI v1), some (aI 0), some (aI 0), some (aI 1000000), some (aI 1), none, none, none]) (stk' := []) (σ' := σ2) (g := []) (by decide +kernel) rfl rfl ?_
    refine aw_forget (L' := [some (aR 12 0 0), some (aI v1), some (aI 0), some (aI 0), some (aI 1000000), some (aI 1), none, none, none]) (lsub_s (lsub_s (lsub_s (lsub_s (lsub_s (lsub_s (lsub_n (lsub_n (lsub_n (lsub_0)))))))))) ?_
    exact ok_X12_ring_25 FU v1 0 0 1000000 1 σ2 _ h
  · rw [if_pos c1] at h
    refine aw_seq [(.sipush (-10000), 3, (axI (-10000)))] (pc' := 12) (L' := [some (aR 12 0 0), some (aI v1), none, none, none, none, none, none, none]) (stk' := [aI (-10000)]) (σ' := σ2) (g := []) (by decide +kernel) rfl rfl ?_
    cases h
    exact aw_iret rfl (by decide +kernel)
def f_X12_givenOf_138  (rec_4 : Int32 → Int32 → Int32 → Sg → Option (Int32 × Sg)) (v1 : Int32) (v2 : Int32) (v3 : Int32) (σ : Sg) : Option (Int32 × Sg) :=
  rec_4 v1 v2 (v3 + (-1)) σ
set_option maxRecDepth 100000 in
set_option maxHeartbeats 4000000 in
theorem ok_X12_givenOf_138 {κ : Kd}   {rec_4 : Int32 → Int32 → Int32 → Sg → Option (Int32 × Sg)} (hrec_4 : ∀ (v1 : Int32) (v2 : Int32) (v3 : Int32) (σ : Sg) (q : (Int32 × Sg)), rec_4 v1 v2 v3 σ = some q → AW κ pX12_givenOf 3 (some (aI q.1), q.2) 4 [some (aR 12 0 0), some (aI v1), some (aI v2), some (aI v3), none, none, none] [] σ) : ∀ (v1 : Int32) (v2 : Int32) (v3 : Int32) (σ : Sg) (q : (Int32 × Sg)), f_X12_givenOf_138 rec_4 v1 v2 v3 σ = some q → AW κ pX12_givenOf 3 (some (aI q.1), q.2) 138 [some (aR 12 0 0), some (aI v1), some (aI v2), some (aI v3), none, none, none] [] σ := by
  intro v1 v2 v3 σ q h
  unfold f_X12_givenOf_138 at h
  refine aw_seq [(.iinc 3 (-1), 3, (axI (-1)))] (pc' := 141) (L' := [some (aR 12 0 0), some (aI v1), some (aI v2), some (aI (v3 + (-1))), none, none, none]) (stk' := []) (σ' := σ) (g := []) (by decide +kernel) rfl rfl ?_
  refine aw_goto (off := (-137)) (tgt := 4) (by decide +kernel) (by decide) ?_
  refine aw_forget (L' := [some (aR 12 0 0), some (aI v1), some (aI v2), some (aI (v3 + (-1))), none, none, none]) (lsub_s (lsub_s (lsub_s (lsub_s (lsub_n (lsub_n (lsub_n (lsub_0)))))))) ?_
  exact hrec_4 v1 v2 (v3 + (-1)) σ _ h
def f_X12_givenOf_57  (rec_25 : Int32 → Int32 → Int32 → Int32 → Int32 → Sg → Option (Int32 × Sg)) (v1 : Int32) (v2 : Int32) (v3 : Int32) (v5 : Int32) (s0 : Int32) (s1 : Int32) (σ : Sg) : Option (Int32 × Sg) :=
  rec_25 v1 v2 v3 (s0 ||| s1) (v5 + 1) σ
set_option maxRecDepth 100000 in
set_option maxHeartbeats 4000000 in
theorem ok_X12_givenOf_57 {κ : Kd}   {rec_25 : Int32 → Int32 → Int32 → Int32 → Int32 → Sg → Option (Int32 × Sg)} (hrec_25 : ∀ (v1 : Int32) (v2 : Int32) (v3 : Int32) (v4 : Int32) (v5 : Int32) (σ : Sg) (q : (Int32 × Sg)), rec_25 v1 v2 v3 v4 v5 σ = some q → AW κ pX12_givenOf 3 (some (aI q.1), q.2) 25 [some (aR 12 0 0), some (aI v1), some (aI v2), some (aI v3), some (aI v4), some (aI v5), none] [] σ) : ∀ (v1 : Int32) (v2 : Int32) (v3 : Int32) (v5 : Int32) (s0 : Int32) (s1 : Int32) (σ : Sg) (q : (Int32 × Sg)), f_X12_givenOf_57 rec_25 v1 v2 v3 v5 s0 s1 σ = some q → AW κ pX12_givenOf 3 (some (aI q.1), q.2) 57 [some (aR 12 0 0), some (aI v1), some (aI v2), some (aI v3), none, some (aI v5), none] [aI s1, aI s0] σ := by
  intro v1 v2 v3 v5 s0 s1 σ q h
  unfold f_X12_givenOf_57 at h
  refine aw_seq [(.ior, 1, ax0), (.istore 4, 2, ax0), (.iinc 5 1, 3, (axI 1))] (pc' := 63) (L' := [some (aR 12 0 0), some (aI v1), some (aI v2), some (aI v3), some (aI (s0 ||| s1)), some (aI (v5 + 1)), none]) (stk' := []) (σ' := σ) (g := []) (by decide +kernel) rfl rfl ?_
  refine aw_goto (off := (-38)) (tgt := 25) (by decide +kernel) (by decide) ?_
  refine aw_forget (L' := [some (aR 12 0 0), some (aI v1), some (aI v2), some (aI v3), some (aI (s0 ||| s1)), some (aI (v5 + 1)), none]) (lsub_s (lsub_s (lsub_s (lsub_s (lsub_s (lsub_s (lsub_n (lsub_0)))))))) ?_
  exact hrec_25 v1 v2 v3 (s0 ||| s1) (v5 + 1) σ _ h
def f_X12_givenOf_106  (rec_72 : Int32 → Int32 → Int32 → Int32 → Int32 → Int32 → Sg → Option (Int32 × Sg)) (v1 : Int32) (v2 : Int32) (v3 : Int32) (v4 : Int32) (v6 : Int32) (s0 : Int32) (s1 : Int32) (σ : Sg) : Option (Int32 × Sg) :=
  rec_72 v1 v2 v3 v4 (s0 + s1) (v6 + 1) σ
set_option maxRecDepth 100000 in
set_option maxHeartbeats 4000000 in
theorem ok_X12_givenOf_106 {κ : Kd}   {rec_72 : Int32 → Int32 → Int32 → Int32 → Int32 → Int32 → Sg → Option (Int32 × Sg)} (hrec_72 : ∀ (v1 : Int32) (v2 : Int32) (v3 : Int32) (v4 : Int32) (v5 : Int32) (v6 : Int32) (σ : Sg) (q : (Int32 × Sg)), rec_72 v1 v2 v3 v4 v5 v6 σ = some q → AW κ pX12_givenOf 3 (some (aI q.1), q.2) 72 [some (aR 12 0 0), some (aI v1), some (aI v2), some (aI v3), some (aI v4), some (aI v5), some (aI v6)] [] σ) : ∀ (v1 : Int32) (v2 : Int32) (v3 : Int32) (v4 : Int32) (v6 : Int32) (s0 : Int32) (s1 : Int32) (σ : Sg) (q : (Int32 × Sg)), f_X12_givenOf_106 rec_72 v1 v2 v3 v4 v6 s0 s1 σ = some q → AW κ pX12_givenOf 3 (some (aI q.1), q.2) 106 [some (aR 12 0 0), some (aI v1), some (aI v2), some (aI v3), some (aI v4), none, some (aI v6)] [aI s1, aI s0] σ := by
  intro v1 v2 v3 v4 v6 s0 s1 σ q h
  unfold f_X12_givenOf_106 at h
  refine aw_seq [(.iadd, 1, ax0), (.istore 5, 2, ax0), (.iinc 6 1, 3, (axI 1))] (pc' := 112) (L' := [some (aR 12 0 0), some (aI v1), some (aI v2), some (aI v3), some (aI v4), some (aI (s0 + s1)), some (aI (v6 + 1))]) (stk' := []) (σ' := σ) (g := []) (by decide +kernel) rfl rfl ?_
  refine aw_goto (off := (-40)) (tgt := 72) (by decide +kernel) (by decide) ?_
  refine aw_forget (L' := [some (aR 12 0 0), some (aI v1), some (aI v2), some (aI v3), some (aI v4), some (aI (s0 + s1)), some (aI (v6 + 1))]) (lsub_s (lsub_s (lsub_s (lsub_s (lsub_s (lsub_s (lsub_s (lsub_0)))))))) ?_
  exact hrec_72 v1 v2 v3 v4 (s0 + s1) (v6 + 1) σ _ h
def f_X12_givenOf_137  (rec_4 : Int32 → Int32 → Int32 → Sg → Option (Int32 × Sg)) (v1 : Int32) (v3 : Int32) (s0 : Int32) (σ : Sg) : Option (Int32 × Sg) :=
  f_X12_givenOf_138 rec_4 v1 s0 v3 σ
set_option maxRecDepth 100000 in
set_option maxHeartbeats 4000000 in
theorem ok_X12_givenOf_137 {κ : Kd}   {rec_4 : Int32 → Int32 → Int32 → Sg → Option (Int32 × Sg)} (hrec_4 : ∀ (v1 : Int32) (v2 : Int32) (v3 : Int32) (σ : Sg) (q : (Int32 × Sg)), rec_4 v1 v2 v3 σ = some q → AW κ pX12_givenOf 3 (some (aI q.1), q.2) 4 [some (aR 12 0 0), some (aI v1), some (aI v2), some (aI v3), none, none, none] [] σ) : ∀ (v1 : Int32) (v3 : Int32) (s0 : Int32) (σ : Sg) (q : (Int32 × Sg)), f_X12_givenOf_137 rec_4 v1 v3 s0 σ = some q → AW κ pX12_givenOf 3 (some (aI q.1), q.2) 137 [some (aR 12 0 0), some (aI v1), none, some (aI v3), none, none, none] [aI s0] σ := by
  intro v1 v3 s0 σ q h
  unfold f_X12_givenOf_137 at h
  refine aw_seq [(.istore_n 2, 1, ax0)] (pc' := 138) (L' := [some (aR 12 0 0), some (aI v1), some (aI s0), some (aI v3), none, none, none]) (stk' := []) (σ' := σ) (g := []) (by decide +kernel) rfl rfl ?_
  refine aw_forget (L' := [some (aR 12 0 0), some (aI v1), some (aI s0), some (aI v3), none, none, none]) (lsub_s (lsub_s (lsub_s (lsub_s (lsub_n (lsub_n (lsub_n (lsub_0)))))))) ?_
  exact ok_X12_givenOf_138 hrec_4 v1 s0 v3 σ _ h
def f_X12_givenOf_72  (rec_4 : Int32 → Int32 → Int32 → Sg → Option (Int32 × Sg)) : Nat → Int32 → Int32 → Int32 → Int32 → Int32 → Int32 → Sg → Option (Int32 × Sg)
  | 0, _, _, _, _, _, _, _ => none
  | fu + 1, v1, v2, v3, v4, v5, v6, σ =>
    grd (inb 0 1986 && true) <|
    if (σ.1 1 (ix 0)) ≤ v6 then (
      bnd (f_X12_bits v3 σ) fun r3 σ2 =>
      if (r3 - v5) ≤ v2 then (
        f_X12_givenOf_137 rec_4 v1 v3 v2 σ2
      ) else (
        bnd (f_X12_bits v3 σ2) fun r6 σ5 =>
        f_X12_givenOf_137 rec_4 v1 v3 (r6 - v5) σ5
      )
    ) else (
      bnd (f_X12_has v4 v6 σ) fun r9 σ8 =>
      if r9 = 0 then (
        f_X12_givenOf_106 (f_X12_givenOf_72 rec_4 fu) v1 v2 v3 v4 v6 v5 0 σ8
      ) else (
        grd (inb v6 8 && true) <|
        f_X12_givenOf_106 (f_X12_givenOf_72 rec_4 fu) v1 v2 v3 v4 v6 v5 (σ8.1 12 (ix v6)) σ8
      )
    )
set_option maxRecDepth 100000 in
set_option maxHeartbeats 4000000 in
theorem ok_X12_givenOf_72 {κ : Kd}   {rec_4 : Int32 → Int32 → Int32 → Sg → Option (Int32 × Sg)} (hrec_4 : ∀ (v1 : Int32) (v2 : Int32) (v3 : Int32) (σ : Sg) (q : (Int32 × Sg)), rec_4 v1 v2 v3 σ = some q → AW κ pX12_givenOf 3 (some (aI q.1), q.2) 4 [some (aR 12 0 0), some (aI v1), some (aI v2), some (aI v3), none, none, none] [] σ) : ∀ (fu : Nat) (v1 : Int32) (v2 : Int32) (v3 : Int32) (v4 : Int32) (v5 : Int32) (v6 : Int32) (σ : Sg) (q : (Int32 × Sg)), f_X12_givenOf_72 rec_4 fu v1 v2 v3 v4 v5 v6 σ = some q → AW κ pX12_givenOf 3 (some (aI q.1), q.2) 72 [some (aR 12 0 0), some (aI v1), some (aI v2), some (aI v3), some (aI v4), some (aI v5), some (aI v6)] [] σ := by
  intro fu
  induction fu with
  | zero =>
    intro v1 v2 v3 v4 v5 v6 σ q h
    unfold f_X12_givenOf_72 at h
    cases h
  | succ fu ih =>
    intro v1 v2 v3 v4 v5 v6 σ q h
    unfold f_X12_givenOf_72 at h
    obtain ⟨hg, h⟩ := grd_some h
    refine aw_seq [(.iload 6, 2, ax0), (.aload_n 0, 1, ax0), (.getfield 7, 3, (axF 12 0 (2, 1, 13, some 1986))), (.iconst 0, 1, (axI 0)), (.iaload, 1, ax0)] (pc' := 80) (L' := [some (aR 12 0 0), some (aI v1), some (aI v2), some (aI v3), some (aI v4), some (aI v5), some (aI v6)]) (stk' := [aI (σ.1 1 (ix 0)), aI v6]) (σ' := σ) (g := [inb 0 1986]) (by decide +kernel) rfl hg ?_
    refine aw_icmp_ge (off := 35) (tgt := 115) (by decide +kernel) (by decide) (fun c1 => ?_) (fun c1 => ?_)
    · rw [if_pos c1] at h
      refine aw_seq [(.iload_n 3, 1, ax0)] (pc' := 116) (L' := [some (aR 12 0 0), some (aI v1), some (aI v2), some (aI v3), some (aI v4), some (aI v5), some (aI v6)]) (stk' := [aI v3]) (σ' := σ) (g := []) (by decide +kernel) rfl rfl ?_
      obtain ⟨r3, σ2, h1, h⟩ := bnd_some h
      refine aw_cS (P' := pX12_bits) (idx := 300) (d' := 1) [aI v3] [] (ov := (some (aI r3))) (stk2 := [aI r3]) okp_X12_bits (by decide +kernel) ml_RX12_300 tok_X12_bits nar_X12_bits (by decide) rfl (Nat.le_of_ble_eq_true rfl) (ok_X12_bits h1) rfl ?_
      refine aw_seq [(.iload 5, 2, ax0), (.isub, 1, ax0), (.iload_n 2, 1, ax0)] (pc' := 123) (L' := [some (aR 12 0 0), some (aI v1), some (aI v2), some (aI v3), some (aI v4), some (aI v5), some (aI v6)]) (stk' := [aI v2, aI (r3 - v5)]) (σ' := σ2) (g := []) (by decide +kernel) rfl rfl ?_
      refine aw_icmp_le (off := 13) (tgt := 136) (by decide +kernel) (by decide) (fun c1 => ?_) (fun c1 => ?_)
      · rw [if_pos c1] at h
        refine aw_seq [(.iload_n 2, 1, ax0)] (pc' := 137) (L' := [some (aR 12 0 0), some (aI v1), some (aI v2), some (aI v3), some (aI v4), some (aI v5), some (aI v6)]) (stk' := [aI v2]) (σ' := σ2) (g := []) (by decide +kernel) rfl rfl ?_
        refine aw_forget (L' := [some (aR 12 0 0), some (aI v1), none, some (aI v3), none, none, none]) (lsub_s (lsub_s (lsub_n (lsub_s (lsub_n (lsub_n (lsub_n (lsub_0)))))))) ?_
        exact ok_X12_givenOf_137 hrec_4 v1 v3 v2 σ2 _ h
      · rw [if_neg c1] at h
        refine aw_seq [(.iload_n 3, 1, ax0)] (pc' := 127) (L' := [some (aR 12 0 0), some (aI v1), some (aI v2), some (aI v3), some (aI v4), some (aI v5), some (aI v6)]) (stk' := [aI v3]) (σ' := σ2) (g := []) (by decide +kernel) rfl rfl ?_
        obtain ⟨r6, σ5, h4, h⟩ := bnd_some h
        refine aw_cS (P' := pX12_bits) (idx := 300) (d' := 1) [aI v3] [] (ov := (some (aI r6))) (stk2 := [aI r6]) okp_X12_bits (by decide +kernel) ml_RX12_300 tok_X12_bits nar_X12_bits (by decide) rfl (Nat.le_of_ble_eq_true rfl) (ok_X12_bits h4) rfl ?_
        refine aw_seq [(.iload 5, 2, ax0), (.isub, 1, ax0)] (pc' := 133) (L' := [some (aR 12 0 0), some (aI v1), some (aI v2), some (aI v3), some (aI v4), some (aI v5), some (aI v6)]) (stk' := [aI (r6 - v5)]) (σ' := σ5) (g := []) (by decide +kernel) rfl rfl ?_
        refine aw_goto (off := 4) (tgt := 137) (by decide +kernel) (by decide) ?_
        refine aw_forget (L' := [some (aR 12 0 0), some (aI v1), none, some (aI v3), none, none, none]) (lsub_s (lsub_s (lsub_n (lsub_s (lsub_n (lsub_n (lsub_n (lsub_0)))))))) ?_
        exact ok_X12_givenOf_137 hrec_4 v1 v3 (r6 - v5) σ5 _ h
    · rw [if_neg c1] at h
      refine aw_seq [(.iload 5, 2, ax0), (.iload 4, 2, ax0), (.iload 6, 2, ax0)] (pc' := 89) (L' := [some (aR 12 0 0), some (aI v1), some (aI v2), some (aI v3), some (aI v4), some (aI v5), some (aI v6)]) (stk' := [aI v6, aI v4, aI v5]) (σ' := σ) (g := []) (by decide +kernel) rfl rfl ?_
      obtain ⟨r9, σ8, h7, h⟩ := bnd_some h
      refine aw_cS (P' := pX12_has) (idx := 250) (d' := 1) [aI v4, aI v6] [aI v5] (ov := (some (aI r9))) (stk2 := [aI r9, aI v5]) okp_X12_has (by decide +kernel) ml_RX12_250 tok_X12_has nar_X12_has (by decide) rfl (Nat.le_of_ble_eq_true rfl) (ok_X12_has h7) rfl ?_
      refine aw_if_eq (off := 13) (tgt := 105) (by decide +kernel) (by decide) (fun c1 => ?_) (fun c1 => ?_)
      · rw [if_pos c1] at h
        refine aw_seq [(.iconst 0, 1, (axI 0))] (pc' := 106) (L' := [some (aR 12 0 0), some (aI v1), some (aI v2), some (aI v3), some (aI v4), some (aI v5), some (aI v6)]) (stk' := [aI 0, aI v5]) (σ' := σ8) (g := []) (by decide +kernel) rfl rfl ?_
        refine aw_forget (L' := [some (aR 12 0 0), some (aI v1), some (aI v2), some (aI v3), some (aI v4), none, some (aI v6)]) (lsub_s (lsub_s (lsub_s (lsub_s (lsub_s (lsub_n (lsub_s (lsub_0)))))))) ?_
        exact ok_X12_givenOf_106 ih v1 v2 v3 v4 v6 v5 0 σ8 _ h
      · rw [if_neg c1] at h
        obtain ⟨hg, h⟩ := grd_some h
        refine aw_seq [(.aload_n 0, 1, ax0), (.getfield 56, 3, (axF 12 29 (2, 12, 13, some 8))), (.iload 6, 2, ax0), (.iaload, 1, ax0)] (pc' := 102) (L' := [some (aR 12 0 0), some (aI v1), some (aI v2), some (aI v3), some (aI v4), some (aI v5), some (aI v6)]) (stk' := [aI (σ8.1 12 (ix v6)), aI v5]) (σ' := σ8) (g := [inb v6 8]) (by decide +kernel) rfl hg ?_
        refine aw_goto (off := 4) (tgt := 106) (by decide +kernel) (by decide) ?_
        refine aw_forget (L' := [some (aR 12 0 0), some (aI v1), some (aI v2), some (aI v3), some (aI v4), none, some (aI v6)]) (lsub_s (lsub_s (lsub_s (lsub_s (lsub_s (lsub_n (lsub_s (lsub_0)))))))) ?_
        exact ok_X12_givenOf_106 ih v1 v2 v3 v4 v6 v5 (σ8.1 12 (ix v6)) σ8 _ h
def f_X12_givenOf_25  (rec_4 : Int32 → Int32 → Int32 → Sg → Option (Int32 × Sg)) : Nat → Int32 → Int32 → Int32 → Int32 → Int32 → Sg → Option (Int32 × Sg)
  | 0, _, _, _, _, _, _ => none
  | fu + 1, v1, v2, v3, v4, v5, σ =>
    grd (inb 0 1986 && true) <|
    if (σ.1 1 (ix 0)) ≤ v5 then (
      f_X12_givenOf_72 rec_4 FU v1 v2 v3 v4 0 0 σ
    ) else (
      bnd (f_X12_has v3 v5 σ) fun r12 σ11 =>
      if r12 = 0 then (
        f_X12_givenOf_57 (f_X12_givenOf_25 rec_4 fu) v1 v2 v3 v5 v4 0 σ11
      ) else (
        bnd (f_X12_beside v5 σ11) fun r15 σ14 =>
        f_X12_givenOf_57 (f_X12_givenOf_25 rec_4 fu) v1 v2 v3 v5 v4 r15 σ14
      )
    )
set_option maxRecDepth 100000 in
set_option maxHeartbeats 4000000 in
theorem ok_X12_givenOf_25 {κ : Kd}   {rec_4 : Int32 → Int32 → Int32 → Sg → Option (Int32 × Sg)} (hrec_4 : ∀ (v1 : Int32) (v2 : Int32) (v3 : Int32) (σ : Sg) (q : (Int32 × Sg)), rec_4 v1 v2 v3 σ = some q → AW κ pX12_givenOf 3 (some (aI q.1), q.2) 4 [some (aR 12 0 0), some (aI v1), some (aI v2), some (aI v3), none, none, none] [] σ) : ∀ (fu : Nat) (v1 : Int32) (v2 : Int32) (v3 : Int32) (v4 : Int32) (v5 : Int32) (σ : Sg) (q : (Int32 × Sg)), f_X12_givenOf_25 rec_4 fu v1 v2 v3 v4 v5 σ = some q → AW κ pX12_givenOf 3 (some (aI q.1), q.2) 25 [some (aR 12 0 0), some (aI v1), some (aI v2), some (aI v3), some (aI v4), some (aI v5), none] [] σ := by
  intro fu
  induction fu with
  | zero =>
    intro v1 v2 v3 v4 v5 σ q h
    unfold f_X12_givenOf_25 at h
    cases h
  | succ fu ih =>
    intro v1 v2 v3 v4 v5 σ q h
    unfold f_X12_givenOf_25 at h
    obtain ⟨hg, h⟩ := grd_some h
    refine aw_seq [(.iload 5, 2, ax0), (.aload_n 0, 1, ax0), (.getfield 7, 3, (axF 12 0 (2, 1, 13, some 1986))), (.iconst 0, 1, (axI 0)), (.iaload, 1, ax0)] (pc' := 33) (L' := [some (aR 12 0 0), some (aI v1), some (aI v2), some (aI v3), some (aI v4), some (aI v5), none]) (stk' := [aI (σ.1 1 (ix 0)), aI v5]) (σ' := σ) (g := [inb 0 1986]) (by decide +kernel) rfl hg ?_
    refine aw_icmp_ge (off := 33) (tgt := 66) (by decide +kernel) (by decide) (fun c1 => ?_) (fun c1 => ?_)
    · rw [if_pos c1] at h
      refine aw_seq [(.iconst 0, 1, (axI 0)), (.istore 5, 2, ax0), (.iconst 0, 1, (axI 0)), (.istore 6, 2, ax0)] (pc' := 72) (L' := [some (aR 12 0 0), some (aI v1), some (aI v2), some (aI v3), some (aI v4), some (aI 0), some (aI 0)]) (stk' := []) (σ' := σ) (g := []) (by decide +kernel) rfl rfl ?_
      refine aw_forget (L' := [some (aR 12 0 0), some (aI v1), some (aI v2), some (aI v3), some (aI v4), some (aI 0), some (aI 0)]) (lsub_s (lsub_s (lsub_s (lsub_s (lsub_s (lsub_s (lsub_s (lsub_0)))))))) ?_
      exact ok_X12_givenOf_72 hrec_4 FU v1 v2 v3 v4 0 0 σ _ h
    · rw [if_neg c1] at h
      refine aw_seq [(.iload 4, 2, ax0), (.iload_n 3, 1, ax0), (.iload 5, 2, ax0)] (pc' := 41) (L' := [some (aR 12 0 0), some (aI v1), some (aI v2), some (aI v3), some (aI v4), some (aI v5), none]) (stk' := [aI v5, aI v3, aI v4]) (σ' := σ) (g := []) (by decide +kernel) rfl rfl ?_
      obtain ⟨r12, σ11, h10, h⟩ := bnd_some h
      refine aw_cS (P' := pX12_has) (idx := 250) (d' := 1) [aI v3, aI v5] [aI v4] (ov := (some (aI r12))) (stk2 := [aI r12, aI v4]) okp_X12_has (by decide +kernel) ml_RX12_250 tok_X12_has nar_X12_has (by decide) rfl (Nat.le_of_ble_eq_true rfl) (ok_X12_has h10) rfl ?_
      refine aw_if_eq (off := 12) (tgt := 56) (by decide +kernel) (by decide) (fun c1 => ?_) (fun c1 => ?_)
      · rw [if_pos c1] at h
        refine aw_seq [(.iconst 0, 1, (axI 0))] (pc' := 57) (L' := [some (aR 12 0 0), some (aI v1), some (aI v2), some (aI v3), some (aI v4), some (aI v5), none]) (stk' := [aI 0, aI v4]) (σ' := σ11) (g := []) (by decide +kernel) rfl rfl ?_
        refine aw_forget (L' := [some (aR 12 0 0), some (aI v1), some (aI v2), some (aI v3), none, some (aI v5), none]) (lsub_s (lsub_s (lsub_s (lsub_s (lsub_n (lsub_s (lsub_n (lsub_0)))))))) ?_
        exact ok_X12_givenOf_57 ih v1 v2 v3 v5 v4 0 σ11 _ h
      · rw [if_neg c1] at h
        refine aw_seq [(.aload_n 0, 1, ax0), (.iload 5, 2, ax0)] (pc' := 50) (L' := [some (aR 12 0 0), some (aI v1), some (aI v2), some (aI v3), some (aI v4), some (aI v5), none]) (stk' := [aI v5, aR 12 0 0, aI v4]) (σ' := σ11) (g := []) (by decide +kernel) rfl rfl ?_
        obtain ⟨r15, σ14, h13, h⟩ := bnd_some h
        refine aw_cV (P' := pX12_beside) (idx := 294) (d' := 2) (c := 12) (n := 0) (k := 0) [aI v5] [aI v4] (ov := (some (aI r15))) (stk2 := [aI r15, aI v4]) okp_X12_beside (by decide +kernel) ml_RX12_294 vok_X12_beside (by decide) rfl nar_X12_beside (by decide) rfl (Nat.le_of_ble_eq_true rfl) (ok_X12_beside h13) rfl ?_
        refine aw_goto (off := 4) (tgt := 57) (by decide +kernel) (by decide) ?_
        refine aw_forget (L' := [some (aR 12 0 0), some (aI v1), some (aI v2), some (aI v3), none, some (aI v5), none]) (lsub_s (lsub_s (lsub_s (lsub_s (lsub_n (lsub_s (lsub_n (lsub_0)))))))) ?_
        exact ok_X12_givenOf_57 ih v1 v2 v3 v5 v4 r15 σ14 _ h
def f_X12_givenOf_4   : Nat → Int32 → Int32 → Int32 → Sg → Option (Int32 × Sg)
  | 0, _, _, _, _ => none
  | fu + 1, v1, v2, v3, σ =>
    if v3 ≤ 0 then (
      bnd (f_X12_bits v1 σ) fun r18 σ17 =>
      some ((r18 - v2), σ17)
    ) else (
      if (v3 &&& (v1 ^^^ (-1))) = 0 then (
        f_X12_givenOf_25 (f_X12_givenOf_4 fu) FU v1 v2 v3 0 0 σ
      ) else (
        f_X12_givenOf_138 (f_X12_givenOf_4 fu) v1 v2 v3 σ
      )
    )
set_option maxRecDepth 100000 in
set_option maxHeartbeats 4000000 in
theorem ok_X12_givenOf_4 {κ : Kd}    : ∀ (fu : Nat) (v1 : Int32) (v2 : Int32) (v3 : Int32) (σ : Sg) (q : (Int32 × Sg)), f_X12_givenOf_4 fu v1 v2 v3 σ = some q → AW κ pX12_givenOf 3 (some (aI q.1), q.2) 4 [some (aR 12 0 0), some (aI v1), some (aI v2), some (aI v3), none, none, none] [] σ := by
  intro fu
  induction fu with
  | zero =>
    intro v1 v2 v3 σ q h
    unfold f_X12_givenOf_4 at h
    cases h
  | succ fu ih =>
    intro v1 v2 v3 σ q h
    unfold f_X12_givenOf_4 at h
    refine aw_seq [(.iload_n 3, 1, ax0)] (pc' := 5) (L' := [some (aR 12 0 0), some (aI v1), some (aI v2), some (aI v3), none, none, none]) (stk' := [aI v3]) (σ' := σ) (g := []) (by decide +kernel) rfl rfl ?_
    refine aw_if_le (off := 139) (tgt := 144) (by decide +kernel) (by decide) (fun c1 => ?_) (fun c1 => ?_)
    · rw [if_pos c1] at h
      refine aw_seq [(.iload_n 1, 1, ax0)] (pc' := 145) (L' := [some (aR 12 0 0), some (aI v1), some (aI v2), some (aI v3), none, none, none]) (stk' := [aI v1]) (σ' := σ) (g := []) (by decide +kernel) rfl rfl ?_
      obtain ⟨r18, σ17, h16, h⟩ := bnd_some h
      refine aw_cS (P' := pX12_bits) (idx := 300) (d' := 1) [aI v1] [] (ov := (some (aI r18))) (stk2 := [aI r18]) okp_X12_bits (by decide +kernel) ml_RX12_300 tok_X12_bits nar_X12_bits (by decide) rfl (Nat.le_of_ble_eq_true rfl) (ok_X12_bits h16) rfl ?_
      refine aw_seq [(.iload_n 2, 1, ax0), (.isub, 1, ax0)] (pc' := 150) (L' := [some (aR 12 0 0), some (aI v1), some (aI v2), some (aI v3), none, none, none]) (stk' := [aI (r18 - v2)]) (σ' := σ17) (g := []) (by decide +kernel) rfl rfl ?_
      cases h
      exact aw_iret rfl (by decide +kernel)
    · rw [if_neg c1] at h
      refine aw_seq [(.iload_n 3, 1, ax0), (.iload_n 1, 1, ax0), (.iconst (-1), 1, (axI (-1))), (.ixor, 1, ax0), (.iand, 1, ax0)] (pc' := 13) (L' := [some (aR 12 0 0), some (aI v1), some (aI v2), some (aI v3), none, none, none]) (stk' := [aI (v3 &&& (v1 ^^^ (-1)))]) (σ' := σ) (g := []) (by decide +kernel) rfl rfl ?_
      refine aw_if_eq (off := 6) (tgt := 19) (by decide +kernel) (by decide) (fun c1 => ?_) (fun c1 => ?_)
      · rw [if_pos c1] at h
        refine aw_seq [(.iconst 0, 1, (axI 0)), (.istore 4, 2, ax0), (.iconst 0, 1, (axI 0)), (.istore 5, 2, ax0)] (pc' := 25) (L' := [some (aR 12 0 0), some (aI v1), some (aI v2), some (aI v3), some (aI 0), some (aI 0), none]) (stk' := []) (σ' := σ) (g := []) (by decide +kernel) rfl rfl ?_
        refine aw_forget (L' := [some (aR 12 0 0), some (aI v1), some (aI v2), some (aI v3), some (aI 0), some (aI 0), none]) (lsub_s (lsub_s (lsub_s (lsub_s (lsub_s (lsub_s (lsub_n (lsub_0)))))))) ?_
        exact ok_X12_givenOf_25 ih FU v1 v2 v3 0 0 σ _ h
      · rw [if_neg c1] at h
        refine aw_goto (off := 122) (tgt := 138) (by decide +kernel) (by decide) ?_
        refine aw_forget (L' := [some (aR 12 0 0), some (aI v1), some (aI v2), some (aI v3), none, none, none]) (lsub_s (lsub_s (lsub_s (lsub_s (lsub_n (lsub_n (lsub_n (lsub_0)))))))) ?_
        exact ok_X12_givenOf_138 ih v1 v2 v3 σ _ h
def f_X12_givenOf (v1 : Int32) (σ : Sg) : Option (Int32 × Sg) :=
  f_X12_givenOf_4 FU v1 0 v1 σ
set_option maxRecDepth 100000 in
set_option maxHeartbeats 4000000 in
theorem ok_X12_givenOf {κ : Kd} {v1 : Int32} {σ : Sg} {q : (Int32 × Sg)} (h : f_X12_givenOf v1 σ = some q) : AMet κ pX12_givenOf 3 [aR 12 0 0, aI v1] σ (some (aI q.1), q.2) := by
  unfold f_X12_givenOf at h
  refine amet_of okp_X12_givenOf [(false, aR 12 0 0), (false, aI v1)] (List.forall_mem_cons.mpr ⟨rfl, List.forall_mem_cons.mpr ⟨rfl, (fun _ hn => absurd hn List.not_mem_nil)⟩⟩) 5 rfl ?_
  show AW κ pX12_givenOf 3 (some (aI q.1), q.2) 0 [some (aR 12 0 0), some (aI v1), none, none, none, none, none] [] σ
  refine aw_seq [(.iconst 0, 1, (axI 0)), (.istore_n 2, 1, ax0), (.iload_n 1, 1, ax0), (.istore_n 3, 1, ax0)] (pc' := 4) (L' := [some (aR 12 0 0), some (aI v1), some (aI 0), some (aI v1), none, none, none]) (stk' := []) (σ' := σ) (g := []) (by decide +kernel) rfl rfl ?_
  refine aw_forget (L' := [some (aR 12 0 0), some (aI v1), some (aI 0), some (aI v1), none, none, none]) (lsub_s (lsub_s (lsub_s (lsub_s (lsub_n (lsub_n (lsub_n (lsub_0)))))))) ?_
  exact ok_X12_givenOf_4 FU v1 0 v1 σ _ h
def f_X12_giverOf_76  (rec_3 : Int32 → Int32 → Int32 → Int32 → Sg → Option (Int32 × Sg)) (v1 : Int32) (v2 : Int32) (v3 : Int32) (v4 : Int32) (σ : Sg) : Option (Int32 × Sg) :=
  rec_3 v1 v2 v3 (v4 + 1) σ
set_option maxRecDepth 100000 in
set_option maxHeartbeats 4000000 in
theorem ok_X12_giverOf_76 {κ : Kd}   {rec_3 : Int32 → Int32 → Int32 → Int32 → Sg → Option (Int32 × Sg)} (hrec_3 : ∀ (v1 : Int32) (v2 : Int32) (v3 : Int32) (v4 : Int32) (σ : Sg) (q : (Int32 × Sg)), rec_3 v1 v2 v3 v4 σ = some q → AW κ pX12_giverOf 4 (some (aI q.1), q.2) 3 [some (aR 12 0 0), some (aI v1), some (aI v2), some (aI v3), some (aI v4)] [] σ) : ∀ (v1 : Int32) (v2 : Int32) (v3 : Int32) (v4 : Int32) (σ : Sg) (q : (Int32 × Sg)), f_X12_giverOf_76 rec_3 v1 v2 v3 v4 σ = some q → AW κ pX12_giverOf 4 (some (aI q.1), q.2) 76 [some (aR 12 0 0), some (aI v1), some (aI v2), some (aI v3), some (aI v4)] [] σ := by
  intro v1 v2 v3 v4 σ q h
  unfold f_X12_giverOf_76 at h
  refine aw_seq [(.iinc 4 1, 3, (axI 1))] (pc' := 79) (L' := [some (aR 12 0 0), some (aI v1), some (aI v2), some (aI v3), some (aI (v4 + 1))]) (stk' := []) (σ' := σ) (g := []) (by decide +kernel) rfl rfl ?_
  refine aw_goto (off := (-76)) (tgt := 3) (by decide +kernel) (by decide) ?_
  refine aw_forget (L' := [some (aR 12 0 0), some (aI v1), some (aI v2), some (aI v3), some (aI (v4 + 1))]) (lsub_s (lsub_s (lsub_s (lsub_s (lsub_s (lsub_0)))))) ?_
  exact hrec_3 v1 v2 v3 (v4 + 1) σ _ h
def f_X12_giverOf_3   : Nat → Int32 → Int32 → Int32 → Int32 → Sg → Option (Int32 × Sg)
  | 0, _, _, _, _, _ => none
  | fu + 1, v1, v2, v3, v4, σ =>
    grd (inb 0 1986 && true) <|
    if (σ.1 1 (ix 0)) ≤ v4 then (
      some ((-1), σ)
    ) else (
      bnd (f_X12_beside v1 σ) fun r3 σ2 =>
      bnd (f_X12_has r3 v4 σ2) fun r6 σ5 =>
      if r6 = 0 then (
        f_X12_giverOf_76 (f_X12_giverOf_3 fu) v1 v2 v3 v4 σ5
      ) else (
        grd (inb v4 8 && true) <|
        if (σ5.1 12 (ix v4)) = 0 then (
          f_X12_giverOf_76 (f_X12_giverOf_3 fu) v1 v2 v3 v4 σ5
        ) else (
          grd (inb v4 8 && (inb v4 8 && true)) <|
          ltσ (wI σ5 12 (ix v4) ((σ5.1 12 (ix v4)) - 1)) fun σ7 =>
          bnd (f_X12_givenOf v2 σ7) fun r11 σ10 =>
          if (1 + r11) = v3 then (
            some (v4, σ10)
          ) else (
            grd (inb v4 8 && (inb v4 8 && true)) <|
            ltσ (wI σ10 12 (ix v4) ((σ10.1 12 (ix v4)) + 1)) fun σ12 =>
            f_X12_giverOf_76 (f_X12_giverOf_3 fu) v1 v2 v3 v4 σ12
          )
        )
      )
    )
set_option maxRecDepth 100000 in
set_option maxHeartbeats 4000000 in
theorem ok_X12_giverOf_3 {κ : Kd}    : ∀ (fu : Nat) (v1 : Int32) (v2 : Int32) (v3 : Int32) (v4 : Int32) (σ : Sg) (q : (Int32 × Sg)), f_X12_giverOf_3 fu v1 v2 v3 v4 σ = some q → AW κ pX12_giverOf 4 (some (aI q.1), q.2) 3 [some (aR 12 0 0), some (aI v1), some (aI v2), some (aI v3), some (aI v4)] [] σ := by
  intro fu
  induction fu with
  | zero =>
    intro v1 v2 v3 v4 σ q h
    unfold f_X12_giverOf_3 at h
    cases h
  | succ fu ih =>
    intro v1 v2 v3 v4 σ q h
    unfold f_X12_giverOf_3 at h
    obtain ⟨hg, h⟩ := grd_some h
    refine aw_seq [(.iload 4, 2, ax0), (.aload_n 0, 1, ax0), (.getfield 7, 3, (axF 12 0 (2, 1, 13, some 1986))), (.iconst 0, 1, (axI 0)), (.iaload, 1, ax0)] (pc' := 11) (L' := [some (aR 12 0 0), some (aI v1), some (aI v2), some (aI v3), some (aI v4)]) (stk' := [aI (σ.1 1 (ix 0)), aI v4]) (σ' := σ) (g := [inb 0 1986]) (by decide +kernel) rfl hg ?_
    refine aw_icmp_ge (off := 71) (tgt := 82) (by decide +kernel) (by decide) (fun c1 => ?_) (fun c1 => ?_)
    · rw [if_pos c1] at h
      refine aw_seq [(.iconst (-1), 1, (axI (-1)))] (pc' := 83) (L' := [some (aR 12 0 0), some (aI v1), some (aI v2), some (aI v3), some (aI v4)]) (stk' := [aI (-1)]) (σ' := σ) (g := []) (by decide +kernel) rfl rfl ?_
      cases h
      exact aw_iret rfl (by decide +kernel)
    · rw [if_neg c1] at h
      refine aw_seq [(.aload_n 0, 1, ax0), (.iload_n 1, 1, ax0)] (pc' := 16) (L' := [some (aR 12 0 0), some (aI v1), some (aI v2), some (aI v3), some (aI v4)]) (stk' := [aI v1, aR 12 0 0]) (σ' := σ) (g := []) (by decide +kernel) rfl rfl ?_
      obtain ⟨r3, σ2, h1, h⟩ := bnd_some h
      refine aw_cV (P' := pX12_beside) (idx := 294) (d' := 2) (c := 12) (n := 0) (k := 0) [aI v1] [] (ov := (some (aI r3))) (stk2 := [aI r3]) okp_X12_beside (by decide +kernel) ml_RX12_294 vok_X12_beside (by decide) rfl nar_X12_beside (by decide) rfl (Nat.le_of_ble_eq_true rfl) (ok_X12_beside h1) rfl ?_
      refine aw_seq [(.iload 4, 2, ax0)] (pc' := 21) (L' := [some (aR 12 0 0), some (aI v1), some (aI v2), some (aI v3), some (aI v4)]) (stk' := [aI v4, aI r3]) (σ' := σ2) (g := []) (by decide +kernel) rfl rfl ?_
      obtain ⟨r6, σ5, h4, h⟩ := bnd_some h
      refine aw_cS (P' := pX12_has) (idx := 250) (d' := 1) [aI r3, aI v4] [] (ov := (some (aI r6))) (stk2 := [aI r6]) okp_X12_has (by decide +kernel) ml_RX12_250 tok_X12_has nar_X12_has (by decide) rfl (Nat.le_of_ble_eq_true rfl) (ok_X12_has h4) rfl ?_
      refine aw_if_eq (off := 52) (tgt := 76) (by decide +kernel) (by decide) (fun c1 => ?_) (fun c1 => ?_)
      · rw [if_pos c1] at h
        refine aw_forget (L' := [some (aR 12 0 0), some (aI v1), some (aI v2), some (aI v3), some (aI v4)]) (lsub_s (lsub_s (lsub_s (lsub_s (lsub_s (lsub_0)))))) ?_
        exact ok_X12_giverOf_76 ih v1 v2 v3 v4 σ5 _ h
      · rw [if_neg c1] at h
        obtain ⟨hg, h⟩ := grd_some h
        refine aw_seq [(.aload_n 0, 1, ax0), (.getfield 56, 3, (axF 12 29 (2, 12, 13, some 8))), (.iload 4, 2, ax0), (.iaload, 1, ax0)] (pc' := 34) (L' := [some (aR 12 0 0), some (aI v1), some (aI v2), some (aI v3), some (aI v4)]) (stk' := [aI (σ5.1 12 (ix v4))]) (σ' := σ5) (g := [inb v4 8]) (by decide +kernel) rfl hg ?_
        refine aw_if_ne (off := 6) (tgt := 40) (by decide +kernel) (by decide) (fun c1 => ?_) (fun c1 => ?_)
        · rw [if_neg c1] at h
          obtain ⟨hg, h⟩ := grd_some h
          obtain ⟨σ7, e8, h⟩ := ltσ_some h
          refine aw_seq [(.aload_n 0, 1, ax0), (.getfield 56, 3, (axF 12 29 (2, 12, 13, some 8))), (.iload 4, 2, ax0), (.dup2, 1, ax0), (.iaload, 1, ax0), (.iconst 1, 1, (axI 1)), (.isub, 1, ax0), (.iastore, 1, ax0)] (pc' := 51) (L' := [some (aR 12 0 0), some (aI v1), some (aI v2), some (aI v3), some (aI v4)]) (stk' := []) (σ' := σ7) (g := [inb v4 8, inb v4 8]) (by decide +kernel) (by rw [e8]; rfl) hg ?_
          refine aw_seq [(.iconst 1, 1, (axI 1)), (.aload_n 0, 1, ax0), (.iload_n 2, 1, ax0)] (pc' := 54) (L' := [some (aR 12 0 0), some (aI v1), some (aI v2), some (aI v3), some (aI v4)]) (stk' := [aI v2, aR 12 0 0, aI 1]) (σ' := σ7) (g := []) (by decide +kernel) rfl rfl ?_
          obtain ⟨r11, σ10, h9, h⟩ := bnd_some h
          refine aw_cV (P' := pX12_givenOf) (idx := 449) (d' := 3) (c := 12) (n := 0) (k := 0) [aI v2] [aI 1] (ov := (some (aI r11))) (stk2 := [aI r11, aI 1]) okp_X12_givenOf (by decide +kernel) ml_RX12_449 vok_X12_givenOf (by decide) rfl nar_X12_givenOf (by decide) rfl (Nat.le_of_ble_eq_true rfl) (ok_X12_givenOf h9) rfl ?_
          refine aw_seq [(.iadd, 1, ax0), (.iload_n 3, 1, ax0)] (pc' := 59) (L' := [some (aR 12 0 0), some (aI v1), some (aI v2), some (aI v3), some (aI v4)]) (stk' := [aI v3, aI (1 + r11)]) (σ' := σ10) (g := []) (by decide +kernel) rfl rfl ?_
          refine aw_icmp_ne (off := 6) (tgt := 65) (by decide +kernel) (by decide) (fun c1 => ?_) (fun c1 => ?_)
          · rw [if_neg c1] at h
            obtain ⟨hg, h⟩ := grd_some h
            obtain ⟨σ12, e13, h⟩ := ltσ_some h
            refine aw_seq [(.aload_n 0, 1, ax0), (.getfield 56, 3, (axF 12 29 (2, 12, 13, some 8))), (.iload 4, 2, ax0), (.dup2, 1, ax0), (.iaload, 1, ax0), (.iconst 1, 1, (axI 1)), (.iadd, 1, ax0), (.iastore, 1, ax0)] (pc' := 76) (L' := [some (aR 12 0 0), some (aI v1), some (aI v2), some (aI v3), some (aI v4)]) (stk' := []) (σ' := σ12) (g := [inb v4 8, inb v4 8]) (by decide +kernel) (by rw [e13]; rfl) hg ?_
            refine aw_forget (L' := [some (aR 12 0 0), some (aI v1), some (aI v2), some (aI v3), some (aI v4)]) (lsub_s (lsub_s (lsub_s (lsub_s (lsub_s (lsub_0)))))) ?_
            exact ok_X12_giverOf_76 ih v1 v2 v3 v4 σ12 _ h
          · rw [if_pos c1] at h
            refine aw_seq [(.iload 4, 2, ax0)] (pc' := 64) (L' := [some (aR 12 0 0), some (aI v1), some (aI v2), some (aI v3), some (aI v4)]) (stk' := [aI v4]) (σ' := σ10) (g := []) (by decide +kernel) rfl rfl ?_
            cases h
            exact aw_iret rfl (by decide +kernel)
        · rw [if_pos c1] at h
          refine aw_goto (off := 39) (tgt := 76) (by decide +kernel) (by decide) ?_
          refine aw_forget (L' := [some (aR 12 0 0), some (aI v1), some (aI v2), some (aI v3), some (aI v4)]) (lsub_s (lsub_s (lsub_s (lsub_s (lsub_s (lsub_0)))))) ?_
          exact ok_X12_giverOf_76 ih v1 v2 v3 v4 σ5 _ h
def f_X12_giverOf (v1 : Int32) (v2 : Int32) (v3 : Int32) (σ : Sg) : Option (Int32 × Sg) :=
  f_X12_giverOf_3 FU v1 v2 v3 0 σ
set_option maxRecDepth 100000 in
set_option maxHeartbeats 4000000 in
theorem ok_X12_giverOf {κ : Kd} {v1 : Int32} {v2 : Int32} {v3 : Int32} {σ : Sg} {q : (Int32 × Sg)} (h : f_X12_giverOf v1 v2 v3 σ = some q) : AMet κ pX12_giverOf 4 [aR 12 0 0, aI v1, aI v2, aI v3] σ (some (aI q.1), q.2) := by
  unfold f_X12_giverOf at h
  refine amet_of okp_X12_giverOf [(false, aR 12 0 0), (false, aI v1), (false, aI v2), (false, aI v3)] (List.forall_mem_cons.mpr ⟨rfl, List.forall_mem_cons.mpr ⟨rfl, List.forall_mem_cons.mpr ⟨rfl, List.forall_mem_cons.mpr ⟨rfl, (fun _ hn => absurd hn List.not_mem_nil)⟩⟩⟩⟩) 1 rfl ?_
  show AW κ pX12_giverOf 4 (some (aI q.1), q.2) 0 [some (aR 12 0 0), some (aI v1), some (aI v2), some (aI v3), none] [] σ
  refine aw_seq [(.iconst 0, 1, (axI 0)), (.istore 4, 2, ax0)] (pc' := 3) (L' := [some (aR 12 0 0), some (aI v1), some (aI v2), some (aI v3), some (aI 0)]) (stk' := []) (σ' := σ) (g := []) (by decide +kernel) rfl rfl ?_
  refine aw_forget (L' := [some (aR 12 0 0), some (aI v1), some (aI v2), some (aI v3), some (aI 0)]) (lsub_s (lsub_s (lsub_s (lsub_s (lsub_s (lsub_0)))))) ?_
  exact ok_X12_giverOf_3 FU v1 v2 v3 0 σ _ h
def f_X12_dawn_24    (σ : Sg) : Option (Int32 × Sg) :=
  some ((-2), σ)
set_option maxRecDepth 100000 in
set_option maxHeartbeats 4000000 in
theorem ok_X12_dawn_24 {κ : Kd}    : ∀  (σ : Sg) (q : (Int32 × Sg)), f_X12_dawn_24  σ = some q → AW κ pX12_dawn 5 (some (aI q.1), q.2) 24 [none, none, none, none, none, none, none] [] σ := by
  intro  σ q h
  unfold f_X12_dawn_24 at h
  refine aw_seq [(.bipush (-2), 2, (axI (-2)))] (pc' := 26) (L' := [none, none, none, none, none, none, none]) (stk' := [aI (-2)]) (σ' := σ) (g := []) (by decide +kernel) rfl rfl ?_
  cases h
  exact aw_iret rfl (by decide +kernel)
def f_X12_dawn_57  (rec_29 : Int32 → Int32 → Int32 → Sg → Option (Int32 × Sg)) (v1 : Int32) (v2 : Int32) (v3 : Int32) (s1 : Int32) (s2 : Int32) (σ : Sg) : Option (Int32 × Sg) :=
  grd (inb s1 8 && true) <|
  ltσ (wI σ 12 (ix s1) s2) fun σ1 =>
  rec_29 v1 v2 (v3 + 1) σ1
set_option maxRecDepth 100000 in
set_option maxHeartbeats 4000000 in
theorem ok_X12_dawn_57 {κ : Kd}   {rec_29 : Int32 → Int32 → Int32 → Sg → Option (Int32 × Sg)} (hrec_29 : ∀ (v1 : Int32) (v2 : Int32) (v3 : Int32) (σ : Sg) (q : (Int32 × Sg)), rec_29 v1 v2 v3 σ = some q → AW κ pX12_dawn 5 (some (aI q.1), q.2) 29 [some (aR 12 0 0), some (aI v1), some (aI v2), some (aI v3), none, none, none] [] σ) : ∀ (v1 : Int32) (v2 : Int32) (v3 : Int32) (s1 : Int32) (s2 : Int32) (σ : Sg) (q : (Int32 × Sg)), f_X12_dawn_57 rec_29 v1 v2 v3 s1 s2 σ = some q → AW κ pX12_dawn 5 (some (aI q.1), q.2) 57 [some (aR 12 0 0), some (aI v1), some (aI v2), some (aI v3), none, none, none] [aI s2, aI s1, aR 13 8 12] σ := by
  intro v1 v2 v3 s1 s2 σ q h
  unfold f_X12_dawn_57 at h
  obtain ⟨hg, h⟩ := grd_some h
  obtain ⟨σ1, e2, h⟩ := ltσ_some h
  refine aw_seq [(.iastore, 1, ax0)] (pc' := 58) (L' := [some (aR 12 0 0), some (aI v1), some (aI v2), some (aI v3), none, none, none]) (stk' := []) (σ' := σ1) (g := [inb s1 8]) (by decide +kernel) (by rw [e2]; rfl) hg ?_
  refine aw_seq [(.iinc 3 1, 3, (axI 1))] (pc' := 61) (L' := [some (aR 12 0 0), some (aI v1), some (aI v2), some (aI (v3 + 1)), none, none, none]) (stk' := []) (σ' := σ1) (g := []) (by decide +kernel) rfl rfl ?_
  refine aw_goto (off := (-32)) (tgt := 29) (by decide +kernel) (by decide) ?_
  refine aw_forget (L' := [some (aR 12 0 0), some (aI v1), some (aI v2), some (aI (v3 + 1)), none, none, none]) (lsub_s (lsub_s (lsub_s (lsub_s (lsub_n (lsub_n (lsub_n (lsub_0)))))))) ?_
  exact hrec_29 v1 v2 (v3 + 1) σ1 _ h
def f_X12_dawn_145  (rec_91 : Int32 → Int32 → Int32 → Int32 → Int32 → Sg → Option (Int32 × Sg)) (v2 : Int32) (v3 : Int32) (v4 : Int32) (v5 : Int32) (v6 : Int32) (σ : Sg) : Option (Int32 × Sg) :=
  rec_91 v2 v3 v4 v5 (v6 + 1) σ
set_option maxRecDepth 100000 in
set_option maxHeartbeats 4000000 in
theorem ok_X12_dawn_145 {κ : Kd}   {rec_91 : Int32 → Int32 → Int32 → Int32 → Int32 → Sg → Option (Int32 × Sg)} (hrec_91 : ∀ (v2 : Int32) (v3 : Int32) (v4 : Int32) (v5 : Int32) (v6 : Int32) (σ : Sg) (q : (Int32 × Sg)), rec_91 v2 v3 v4 v5 v6 σ = some q → AW κ pX12_dawn 5 (some (aI q.1), q.2) 91 [some (aR 12 0 0), none, some (aI v2), some (aI v3), some (aI v4), some (aI v5), some (aI v6)] [] σ) : ∀ (v2 : Int32) (v3 : Int32) (v4 : Int32) (v5 : Int32) (v6 : Int32) (σ : Sg) (q : (Int32 × Sg)), f_X12_dawn_145 rec_91 v2 v3 v4 v5 v6 σ = some q → AW κ pX12_dawn 5 (some (aI q.1), q.2) 145 [some (aR 12 0 0), none, some (aI v2), some (aI v3), some (aI v4), some (aI v5), some (aI v6)] [] σ := by
  intro v2 v3 v4 v5 v6 σ q h
  unfold f_X12_dawn_145 at h
  refine aw_seq [(.iinc 6 1, 3, (axI 1))] (pc' := 148) (L' := [some (aR 12 0 0), none, some (aI v2), some (aI v3), some (aI v4), some (aI v5), some (aI (v6 + 1))]) (stk' := []) (σ' := σ) (g := []) (by decide +kernel) rfl rfl ?_
  refine aw_goto (off := (-57)) (tgt := 91) (by decide +kernel) (by decide) ?_
  refine aw_forget (L' := [some (aR 12 0 0), none, some (aI v2), some (aI v3), some (aI v4), some (aI v5), some (aI (v6 + 1))]) (lsub_s (lsub_n (lsub_s (lsub_s (lsub_s (lsub_s (lsub_s (lsub_0)))))))) ?_
  exact hrec_91 v2 v3 v4 v5 (v6 + 1) σ _ h
def f_X12_dawn_142  (rec_91 : Int32 → Int32 → Int32 → Int32 → Int32 → Sg → Option (Int32 × Sg)) (v2 : Int32) (v3 : Int32) (v5 : Int32) (v6 : Int32) (s0 : Int32) (s1 : Int32) (σ : Sg) : Option (Int32 × Sg) :=
  f_X12_dawn_145 rec_91 v2 v3 (s0 - s1) v5 v6 σ
set_option maxRecDepth 100000 in
set_option maxHeartbeats 4000000 in
theorem ok_X12_dawn_142 {κ : Kd}   {rec_91 : Int32 → Int32 → Int32 → Int32 → Int32 → Sg → Option (Int32 × Sg)} (hrec_91 : ∀ (v2 : Int32) (v3 : Int32) (v4 : Int32) (v5 : Int32) (v6 : Int32) (σ : Sg) (q : (Int32 × Sg)), rec_91 v2 v3 v4 v5 v6 σ = some q → AW κ pX12_dawn 5 (some (aI q.1), q.2) 91 [some (aR 12 0 0), none, some (aI v2), some (aI v3), some (aI v4), some (aI v5), some (aI v6)] [] σ) : ∀ (v2 : Int32) (v3 : Int32) (v5 : Int32) (v6 : Int32) (s0 : Int32) (s1 : Int32) (σ : Sg) (q : (Int32 × Sg)), f_X12_dawn_142 rec_91 v2 v3 v5 v6 s0 s1 σ = some q → AW κ pX12_dawn 5 (some (aI q.1), q.2) 142 [some (aR 12 0 0), none, some (aI v2), some (aI v3), none, some (aI v5), some (aI v6)] [aI s1, aI s0] σ := by
  intro v2 v3 v5 v6 s0 s1 σ q h
  unfold f_X12_dawn_142 at h
  refine aw_seq [(.isub, 1, ax0), (.istore 4, 2, ax0)] (pc' := 145) (L' := [some (aR 12 0 0), none, some (aI v2), some (aI v3), some (aI (s0 - s1)), some (aI v5), some (aI v6)]) (stk' := []) (σ' := σ) (g := []) (by decide +kernel) rfl rfl ?_
  refine aw_forget (L' := [some (aR 12 0 0), none, some (aI v2), some (aI v3), some (aI (s0 - s1)), some (aI v5), some (aI v6)]) (lsub_s (lsub_n (lsub_s (lsub_s (lsub_s (lsub_s (lsub_s (lsub_0)))))))) ?_
  exact ok_X12_dawn_145 hrec_91 v2 v3 (s0 - s1) v5 v6 σ _ h
def f_X12_dawn_91   : Nat → Int32 → Int32 → Int32 → Int32 → Int32 → Sg → Option (Int32 × Sg)
  | 0, _, _, _, _, _, _ => none
  | fu + 1, v2, v3, v4, v5, v6, σ =>
    if v2 < v6 then (
      some (v5, σ)
    ) else (
      bnd (f_X12_has v3 v6 σ) fun r5 σ4 =>
      if r5 = 0 then (
        f_X12_dawn_145 (f_X12_dawn_91 fu) v2 v3 v4 v5 v6 σ4
      ) else (
        bnd (f_X12_giverOf v6 (v3 &&& ((shl 1 v6) ^^^ (-1))) v4 σ4) fun r8 σ7 =>
        if r8 = (-1) then (
          f_X12_dawn_142 (f_X12_dawn_91 fu) v2 (v3 &&& ((shl 1 v6) ^^^ (-1))) r8 v6 v4 0 σ7
        ) else (
          f_X12_dawn_142 (f_X12_dawn_91 fu) v2 (v3 &&& ((shl 1 v6) ^^^ (-1))) r8 v6 v4 1 σ7
        )
      )
    )
set_option maxRecDepth 100000 in
set_option maxHeartbeats 4000000 in
theorem ok_X12_dawn_91 {κ : Kd}    : ∀ (fu : Nat) (v2 : Int32) (v3 : Int32) (v4 : Int32) (v5 : Int32) (v6 : Int32) (σ : Sg) (q : (Int32 × Sg)), f_X12_dawn_91 fu v2 v3 v4 v5 v6 σ = some q → AW κ pX12_dawn 5 (some (aI q.1), q.2) 91 [some (aR 12 0 0), none, some (aI v2), some (aI v3), some (aI v4), some (aI v5), some (aI v6)] [] σ := by
  intro fu
  induction fu with
  | zero =>
    intro v2 v3 v4 v5 v6 σ q h
    unfold f_X12_dawn_91 at h
    cases h
  | succ fu ih =>
    intro v2 v3 v4 v5 v6 σ q h
    unfold f_X12_dawn_91 at h
    refine aw_seq [(.iload 6, 2, ax0), (.iload_n 2, 1, ax0)] (pc' := 94) (L' := [some (aR 12 0 0), none, some (aI v2), some (aI v3), some (aI v4), some (aI v5), some (aI v6)]) (stk' := [aI v2, aI v6]) (σ' := σ) (g := []) (by decide +kernel) rfl rfl ?_
    refine aw_icmp_gt (off := 57) (tgt := 151) (by decide +kernel) (by decide) (fun c1 => ?_) (fun c1 => ?_)
    · rw [if_pos c1] at h
      refine aw_seq [(.iload 5, 2, ax0)] (pc' := 153) (L' := [some (aR 12 0 0), none, some (aI v2), some (aI v3), some (aI v4), some (aI v5), some (aI v6)]) (stk' := [aI v5]) (σ' := σ) (g := []) (by decide +kernel) rfl rfl ?_
      cases h
      exact aw_iret rfl (by decide +kernel)
    · rw [if_neg c1] at h
      refine aw_seq [(.iload_n 3, 1, ax0), (.iload 6, 2, ax0)] (pc' := 100) (L' := [some (aR 12 0 0), none, some (aI v2), some (aI v3), some (aI v4), some (aI v5), some (aI v6)]) (stk' := [aI v6, aI v3]) (σ' := σ) (g := []) (by decide +kernel) rfl rfl ?_
      obtain ⟨r5, σ4, h3, h⟩ := bnd_some h
      refine aw_cS (P' := pX12_has) (idx := 250) (d' := 1) [aI v3, aI v6] [] (ov := (some (aI r5))) (stk2 := [aI r5]) okp_X12_has (by decide +kernel) ml_RX12_250 tok_X12_has nar_X12_has (by decide) rfl (Nat.le_of_ble_eq_true rfl) (ok_X12_has h3) rfl ?_
      refine aw_if_ne (off := 6) (tgt := 109) (by decide +kernel) (by decide) (fun c1 => ?_) (fun c1 => ?_)
      · rw [if_neg c1] at h
        refine aw_seq [(.iload_n 3, 1, ax0), (.iconst 1, 1, (axI 1)), (.iload 6, 2, ax0), (.ishl, 1, ax0), (.iconst (-1), 1, (axI (-1))), (.ixor, 1, ax0), (.iand, 1, ax0), (.istore_n 3, 1, ax0), (.aload_n 0, 1, ax0), (.iload 6, 2, ax0), (.iload_n 3, 1, ax0), (.iload 4, 2, ax0)] (pc' := 124) (L' := [some (aR 12 0 0), none, some (aI v2), some (aI (v3 &&& ((shl 1 v6) ^^^ (-1)))), some (aI v4), some (aI v5), some (aI v6)]) (stk' := [aI v4, aI (v3 &&& ((shl 1 v6) ^^^ (-1))), aI v6, aR 12 0 0]) (σ' := σ4) (g := []) (by decide +kernel) rfl rfl ?_
        obtain ⟨r8, σ7, h6, h⟩ := bnd_some h
        refine aw_cV (P' := pX12_giverOf) (idx := 452) (d' := 4) (c := 12) (n := 0) (k := 0) [aI v6, aI (v3 &&& ((shl 1 v6) ^^^ (-1))), aI v4] [] (ov := (some (aI r8))) (stk2 := [aI r8]) okp_X12_giverOf (by decide +kernel) ml_RX12_452 vok_X12_giverOf (by decide) rfl nar_X12_giverOf (by decide) rfl (Nat.le_of_ble_eq_true rfl) (ok_X12_giverOf h6) rfl ?_
        refine aw_seq [(.istore 5, 2, ax0), (.iload 4, 2, ax0), (.iload 5, 2, ax0), (.iconst (-1), 1, (axI (-1)))] (pc' := 134) (L' := [some (aR 12 0 0), none, some (aI v2), some (aI (v3 &&& ((shl 1 v6) ^^^ (-1)))), some (aI v4), some (aI r8), some (aI v6)]) (stk' := [aI (-1), aI r8, aI v4]) (σ' := σ7) (g := []) (by decide +kernel) rfl rfl ?_
        refine aw_icmp_ne (off := 7) (tgt := 141) (by decide +kernel) (by decide) (fun c1 => ?_) (fun c1 => ?_)
        · rw [if_neg c1] at h
          refine aw_seq [(.iconst 1, 1, (axI 1))] (pc' := 142) (L' := [some (aR 12 0 0), none, some (aI v2), some (aI (v3 &&& ((shl 1 v6) ^^^ (-1)))), some (aI v4), some (aI r8), some (aI v6)]) (stk' := [aI 1, aI v4]) (σ' := σ7) (g := []) (by decide +kernel) rfl rfl ?_
          refine aw_forget (L' := [some (aR 12 0 0), none, some (aI v2), some (aI (v3 &&& ((shl 1 v6) ^^^ (-1)))), none, some (aI r8), some (aI v6)]) (lsub_s (lsub_n (lsub_s (lsub_s (lsub_n (lsub_s (lsub_s (lsub_0)))))))) ?_
          exact ok_X12_dawn_142 ih v2 (v3 &&& ((shl 1 v6) ^^^ (-1))) r8 v6 v4 1 σ7 _ h
        · rw [if_pos c1] at h
          refine aw_seq [(.iconst 0, 1, (axI 0))] (pc' := 138) (L' := [some (aR 12 0 0), none, some (aI v2), some (aI (v3 &&& ((shl 1 v6) ^^^ (-1)))), some (aI v4), some (aI r8), some (aI v6)]) (stk' := [aI 0, aI v4]) (σ' := σ7) (g := []) (by decide +kernel) rfl rfl ?_
          refine aw_goto (off := 4) (tgt := 142) (by decide +kernel) (by decide) ?_
          refine aw_forget (L' := [some (aR 12 0 0), none, some (aI v2), some (aI (v3 &&& ((shl 1 v6) ^^^ (-1)))), none, some (aI r8), some (aI v6)]) (lsub_s (lsub_n (lsub_s (lsub_s (lsub_n (lsub_s (lsub_s (lsub_0)))))))) ?_
          exact ok_X12_dawn_142 ih v2 (v3 &&& ((shl 1 v6) ^^^ (-1))) r8 v6 v4 0 σ7 _ h
      · rw [if_pos c1] at h
        refine aw_goto (off := 39) (tgt := 145) (by decide +kernel) (by decide) ?_
        refine aw_forget (L' := [some (aR 12 0 0), none, some (aI v2), some (aI v3), some (aI v4), some (aI v5), some (aI v6)]) (lsub_s (lsub_n (lsub_s (lsub_s (lsub_s (lsub_s (lsub_s (lsub_0)))))))) ?_
        exact ok_X12_dawn_145 ih v2 v3 v4 v5 v6 σ4 _ h
def f_X12_dawn_29   : Nat → Int32 → Int32 → Int32 → Sg → Option (Int32 × Sg)
  | 0, _, _, _, _ => none
  | fu + 1, v1, v2, v3, σ =>
    grd (inb 0 1986 && true) <|
    if (σ.1 1 (ix 0)) ≤ v3 then (
      bnd (f_X12_allOf 0 σ) fun r11 σ10 =>
      bnd (f_X12_givenOf r11 σ10) fun r14 σ13 =>
      if v2 = (-1) then (
        some (r14, σ13)
      ) else (
        f_X12_dawn_91 FU v2 r11 r14 (-1) 0 σ13
      )
    ) else (
      bnd (f_X12_isGiver v3 σ) fun r17 σ16 =>
      if r17 = 0 then (
        f_X12_dawn_57 (f_X12_dawn_29 fu) v1 v2 v3 v3 0 σ16
      ) else (
        f_X12_dawn_57 (f_X12_dawn_29 fu) v1 v2 v3 v3 v1 σ16
      )
    )
set_option maxRecDepth 100000 in
set_option maxHeartbeats 4000000 in
theorem ok_X12_dawn_29 {κ : Kd}    : ∀ (fu : Nat) (v1 : Int32) (v2 : Int32) (v3 : Int32) (σ : Sg) (q : (Int32 × Sg)), f_X12_dawn_29 fu v1 v2 v3 σ = some q → AW κ pX12_dawn 5 (some (aI q.1), q.2) 29 [some (aR 12 0 0), some (aI v1), some (aI v2), some (aI v3), none, none, none] [] σ := by
  intro fu
  induction fu with
  | zero =>
    intro v1 v2 v3 σ q h
    unfold f_X12_dawn_29 at h
    cases h
  | succ fu ih =>
    intro v1 v2 v3 σ q h
    unfold f_X12_dawn_29 at h
    obtain ⟨hg, h⟩ := grd_some h
    refine aw_seq [(.iload_n 3, 1, ax0), (.aload_n 0, 1, ax0), (.getfield 7, 3, (axF 12 0 (2, 1, 13, some 1986))), (.iconst 0, 1, (axI 0)), (.iaload, 1, ax0)] (pc' := 36) (L' := [some (aR 12 0 0), some (aI v1), some (aI v2), some (aI v3), none, none, none]) (stk' := [aI (σ.1 1 (ix 0)), aI v3]) (σ' := σ) (g := [inb 0 1986]) (by decide +kernel) rfl hg ?_
    refine aw_icmp_ge (off := 28) (tgt := 64) (by decide +kernel) (by decide) (fun c1 => ?_) (fun c1 => ?_)
    · rw [if_pos c1] at h
      refine aw_seq [(.aload_n 0, 1, ax0), (.iconst 0, 1, (axI 0))] (pc' := 66) (L' := [some (aR 12 0 0), some (aI v1), some (aI v2), some (aI v3), none, none, none]) (stk' := [aI 0, aR 12 0 0]) (σ' := σ) (g := []) (by decide +kernel) rfl rfl ?_
      obtain ⟨r11, σ10, h9, h⟩ := bnd_some h
      refine aw_cV (P' := pX12_allOf) (idx := 346) (d' := 2) (c := 12) (n := 0) (k := 0) [aI 0] [] (ov := (some (aI r11))) (stk2 := [aI r11]) okp_X12_allOf (by decide +kernel) ml_RX12_346 vok_X12_allOf (by decide) rfl nar_X12_allOf (by decide) rfl (Nat.le_of_ble_eq_true rfl) (ok_X12_allOf h9) rfl ?_
      refine aw_seq [(.istore_n 3, 1, ax0), (.aload_n 0, 1, ax0), (.iload_n 3, 1, ax0)] (pc' := 72) (L' := [some (aR 12 0 0), some (aI v1), some (aI v2), some (aI r11), none, none, none]) (stk' := [aI r11, aR 12 0 0]) (σ' := σ10) (g := []) (by decide +kernel) rfl rfl ?_
      obtain ⟨r14, σ13, h12, h⟩ := bnd_some h
      refine aw_cV (P' := pX12_givenOf) (idx := 449) (d' := 3) (c := 12) (n := 0) (k := 0) [aI r11] [] (ov := (some (aI r14))) (stk2 := [aI r14]) okp_X12_givenOf (by decide +kernel) ml_RX12_449 vok_X12_givenOf (by decide) rfl nar_X12_givenOf (by decide) rfl (Nat.le_of_ble_eq_true rfl) (ok_X12_givenOf h12) rfl ?_
      refine aw_seq [(.istore 4, 2, ax0), (.iload_n 2, 1, ax0), (.iconst (-1), 1, (axI (-1)))] (pc' := 79) (L' := [some (aR 12 0 0), some (aI v1), some (aI v2), some (aI r11), some (aI r14), none, none]) (stk' := [aI (-1), aI v2]) (σ' := σ13) (g := []) (by decide +kernel) rfl rfl ?_
      refine aw_icmp_ne (off := 6) (tgt := 85) (by decide +kernel) (by decide) (fun c1 => ?_) (fun c1 => ?_)
      · rw [if_neg c1] at h
        refine aw_seq [(.iconst (-1), 1, (axI (-1))), (.istore 5, 2, ax0), (.iconst 0, 1, (axI 0)), (.istore 6, 2, ax0)] (pc' := 91) (L' := [some (aR 12 0 0), some (aI v1), some (aI v2), some (aI r11), some (aI r14), some (aI (-1)), some (aI 0)]) (stk' := []) (σ' := σ13) (g := []) (by decide +kernel) rfl rfl ?_
        refine aw_forget (L' := [some (aR 12 0 0), none, some (aI v2), some (aI r11), some (aI r14), some (aI (-1)), some (aI 0)]) (lsub_s (lsub_n (lsub_s (lsub_s (lsub_s (lsub_s (lsub_s (lsub_0)))))))) ?_
        exact ok_X12_dawn_91 FU v2 r11 r14 (-1) 0 σ13 _ h
      · rw [if_pos c1] at h
        refine aw_seq [(.iload 4, 2, ax0)] (pc' := 84) (L' := [some (aR 12 0 0), some (aI v1), some (aI v2), some (aI r11), some (aI r14), none, none]) (stk' := [aI r14]) (σ' := σ13) (g := []) (by decide +kernel) rfl rfl ?_
        cases h
        exact aw_iret rfl (by decide +kernel)
    · rw [if_neg c1] at h
      refine aw_seq [(.aload_n 0, 1, ax0), (.getfield 56, 3, (axF 12 29 (2, 12, 13, some 8))), (.iload_n 3, 1, ax0), (.aload_n 0, 1, ax0), (.iload_n 3, 1, ax0)] (pc' := 46) (L' := [some (aR 12 0 0), some (aI v1), some (aI v2), some (aI v3), none, none, none]) (stk' := [aI v3, aR 12 0 0, aI v3, aR 13 8 12]) (σ' := σ) (g := []) (by decide +kernel) rfl rfl ?_
      obtain ⟨r17, σ16, h15, h⟩ := bnd_some h
      refine aw_cV (P' := pX12_isGiver) (idx := 364) (d' := 3) (c := 12) (n := 0) (k := 0) [aI v3] [aI v3, aR 13 8 12] (ov := (some (aI r17))) (stk2 := [aI r17, aI v3, aR 13 8 12]) okp_X12_isGiver (by decide +kernel) ml_RX12_364 vok_X12_isGiver (by decide) rfl nar_X12_isGiver (by decide) rfl (Nat.le_of_ble_eq_true rfl) (ok_X12_isGiver h15) rfl ?_
      refine aw_if_eq (off := 7) (tgt := 56) (by decide +kernel) (by decide) (fun c1 => ?_) (fun c1 => ?_)
      · rw [if_pos c1] at h
        refine aw_seq [(.iconst 0, 1, (axI 0))] (pc' := 57) (L' := [some (aR 12 0 0), some (aI v1), some (aI v2), some (aI v3), none, none, none]) (stk' := [aI 0, aI v3, aR 13 8 12]) (σ' := σ16) (g := []) (by decide +kernel) rfl rfl ?_
        refine aw_forget (L' := [some (aR 12 0 0), some (aI v1), some (aI v2), some (aI v3), none, none, none]) (lsub_s (lsub_s (lsub_s (lsub_s (lsub_n (lsub_n (lsub_n (lsub_0)))))))) ?_
        exact ok_X12_dawn_57 ih v1 v2 v3 v3 0 σ16 _ h
      · rw [if_neg c1] at h
        refine aw_seq [(.iload_n 1, 1, ax0)] (pc' := 53) (L' := [some (aR 12 0 0), some (aI v1), some (aI v2), some (aI v3), none, none, none]) (stk' := [aI v1, aI v3, aR 13 8 12]) (σ' := σ16) (g := []) (by decide +kernel) rfl rfl ?_
        refine aw_goto (off := 4) (tgt := 57) (by decide +kernel) (by decide) ?_
        refine aw_forget (L' := [some (aR 12 0 0), some (aI v1), some (aI v2), some (aI v3), none, none, none]) (lsub_s (lsub_s (lsub_s (lsub_s (lsub_n (lsub_n (lsub_n (lsub_0)))))))) ?_
        exact ok_X12_dawn_57 ih v1 v2 v3 v3 v1 σ16 _ h
def f_X12_dawn_27   (v1 : Int32) (v2 : Int32) (σ : Sg) : Option (Int32 × Sg) :=
  f_X12_dawn_29 FU v1 v2 0 σ
set_option maxRecDepth 100000 in
set_option maxHeartbeats 4000000 in
theorem ok_X12_dawn_27 {κ : Kd}    : ∀ (v1 : Int32) (v2 : Int32) (σ : Sg) (q : (Int32 × Sg)), f_X12_dawn_27 v1 v2 σ = some q → AW κ pX12_dawn 5 (some (aI q.1), q.2) 27 [some (aR 12 0 0), some (aI v1), some (aI v2), none, none, none, none] [] σ := by
  intro v1 v2 σ q h
  unfold f_X12_dawn_27 at h
  refine aw_seq [(.iconst 0, 1, (axI 0)), (.istore_n 3, 1, ax0)] (pc' := 29) (L' := [some (aR 12 0 0), some (aI v1), some (aI v2), some (aI 0), none, none, none]) (stk' := []) (σ' := σ) (g := []) (by decide +kernel) rfl rfl ?_
  refine aw_forget (L' := [some (aR 12 0 0), some (aI v1), some (aI v2), some (aI 0), none, none, none]) (lsub_s (lsub_s (lsub_s (lsub_s (lsub_n (lsub_n (lsub_n (lsub_0)))))))) ?_
  exact ok_X12_dawn_29 FU v1 v2 0 σ _ h
def f_X12_dawn (v1 : Int32) (v2 : Int32) (σ : Sg) : Option (Int32 × Sg) :=
  bnd (f_X12_isIn v1 1 8 σ) fun r20 σ19 =>
  if r20 = 0 then (
    f_X12_dawn_24 σ19
  ) else (
    if v2 = (-1) then (
      f_X12_dawn_27 v1 v2 σ19
    ) else (
      bnd (f_X12_isSo v2 0 σ19) fun r23 σ22 =>
      if r23 = 0 then (
        f_X12_dawn_24 σ22
      ) else (
        f_X12_dawn_27 v1 v2 σ22
      )
    )
  )
set_option maxRecDepth 100000 in
set_option maxHeartbeats 4000000 in
theorem ok_X12_dawn {κ : Kd} {v1 : Int32} {v2 : Int32} {σ : Sg} {q : (Int32 × Sg)} (h : f_X12_dawn v1 v2 σ = some q) : AMet κ pX12_dawn 5 [aR 12 0 0, aI v1, aI v2] σ (some (aI q.1), q.2) := by
  unfold f_X12_dawn at h
  refine amet_of okp_X12_dawn [(false, aR 12 0 0), (false, aI v1), (false, aI v2)] (List.forall_mem_cons.mpr ⟨rfl, List.forall_mem_cons.mpr ⟨rfl, List.forall_mem_cons.mpr ⟨rfl, (fun _ hn => absurd hn List.not_mem_nil)⟩⟩⟩) 4 rfl ?_
  show AW κ pX12_dawn 5 (some (aI q.1), q.2) 0 [some (aR 12 0 0), some (aI v1), some (aI v2), none, none, none, none] [] σ
  refine aw_seq [(.iload_n 1, 1, ax0), (.iconst 1, 1, (axI 1)), (.bipush 8, 2, (axI 8))] (pc' := 4) (L' := [some (aR 12 0 0), some (aI v1), some (aI v2), none, none, none, none]) (stk' := [aI 8, aI 1, aI v1]) (σ' := σ) (g := []) (by decide +kernel) rfl rfl ?_
  obtain ⟨r20, σ19, h18, h⟩ := bnd_some h
  refine aw_cS (P' := pX12_isIn) (idx := 69) (d' := 1) [aI v1, aI 1, aI 8] [] (ov := (some (aI r20))) (stk2 := [aI r20]) okp_X12_isIn (by decide +kernel) ml_RX12_69 tok_X12_isIn nar_X12_isIn (by decide) rfl (Nat.le_of_ble_eq_true rfl) (ok_X12_isIn h18) rfl ?_
  refine aw_if_eq (off := 17) (tgt := 24) (by decide +kernel) (by decide) (fun c1 => ?_) (fun c1 => ?_)
  · rw [if_pos c1] at h
    refine aw_forget (L' := [none, none, none, none, none, none, none]) (lsub_n (lsub_n (lsub_n (lsub_n (lsub_n (lsub_n (lsub_n (lsub_0)))))))) ?_
    exact ok_X12_dawn_24 σ19 _ h
  · rw [if_neg c1] at h
    refine aw_seq [(.iload_n 2, 1, ax0), (.iconst (-1), 1, (axI (-1)))] (pc' := 12) (L' := [some (aR 12 0 0), some (aI v1), some (aI v2), none, none, none, none]) (stk' := [aI (-1), aI v2]) (σ' := σ19) (g := []) (by decide +kernel) rfl rfl ?_
    refine aw_icmp_eq (off := 15) (tgt := 27) (by decide +kernel) (by decide) (fun c1 => ?_) (fun c1 => ?_)
    · rw [if_pos c1] at h
      refine aw_forget (L' := [some (aR 12 0 0), some (aI v1), some (aI v2), none, none, none, none]) (lsub_s (lsub_s (lsub_s (lsub_n (lsub_n (lsub_n (lsub_n (lsub_0)))))))) ?_
      exact ok_X12_dawn_27 v1 v2 σ19 _ h
    · rw [if_neg c1] at h
      refine aw_seq [(.aload_n 0, 1, ax0), (.iload_n 2, 1, ax0), (.iconst 0, 1, (axI 0))] (pc' := 18) (L' := [some (aR 12 0 0), some (aI v1), some (aI v2), none, none, none, none]) (stk' := [aI 0, aI v2, aR 12 0 0]) (σ' := σ19) (g := []) (by decide +kernel) rfl rfl ?_
      obtain ⟨r23, σ22, h21, h⟩ := bnd_some h
      refine aw_cV (P' := pX12_isSo) (idx := 352) (d' := 3) (c := 12) (n := 0) (k := 0) [aI v2, aI 0] [] (ov := (some (aI r23))) (stk2 := [aI r23]) okp_X12_isSo (by decide +kernel) ml_RX12_352 vok_X12_isSo (by decide) rfl nar_X12_isSo (by decide) rfl (Nat.le_of_ble_eq_true rfl) (ok_X12_isSo h21) rfl ?_
      refine aw_if_ne (off := 6) (tgt := 27) (by decide +kernel) (by decide) (fun c1 => ?_) (fun c1 => ?_)
      · rw [if_neg c1] at h
        refine aw_forget (L' := [some (aR 12 0 0), some (aI v1), some (aI v2), none, none, none, none]) (lsub_s (lsub_s (lsub_s (lsub_n (lsub_n (lsub_n (lsub_n (lsub_0)))))))) ?_
        exact ok_X12_dawn_27 v1 v2 σ22 _ h
      · rw [if_pos c1] at h
        refine aw_forget (L' := [none, none, none, none, none, none, none]) (lsub_n (lsub_n (lsub_n (lsub_n (lsub_n (lsub_n (lsub_n (lsub_0)))))))) ?_
        exact ok_X12_dawn_24 σ22 _ h
def f_X12_chain_41  (rec_15 : Int32 → Int32 → Int32 → Sg → Option (Int32 × Sg)) (v1 : Int32) (v3 : Int32) (s0 : Int32) (s1 : Int32) (σ : Sg) : Option (Int32 × Sg) :=
  rec_15 v1 (s0 ||| s1) (v3 + 1) σ
set_option maxRecDepth 100000 in
set_option maxHeartbeats 4000000 in
theorem ok_X12_chain_41 {κ : Kd}   {rec_15 : Int32 → Int32 → Int32 → Sg → Option (Int32 × Sg)} (hrec_15 : ∀ (v1 : Int32) (v2 : Int32) (v3 : Int32) (σ : Sg) (q : (Int32 × Sg)), rec_15 v1 v2 v3 σ = some q → AW κ pX12_chain 4 (some (aI q.1), q.2) 15 [some (aR 12 0 0), some (aI v1), some (aI v2), some (aI v3), none, none] [] σ) : ∀ (v1 : Int32) (v3 : Int32) (s0 : Int32) (s1 : Int32) (σ : Sg) (q : (Int32 × Sg)), f_X12_chain_41 rec_15 v1 v3 s0 s1 σ = some q → AW κ pX12_chain 4 (some (aI q.1), q.2) 41 [some (aR 12 0 0), some (aI v1), none, some (aI v3), none, none] [aI s1, aI s0] σ := by
  intro v1 v3 s0 s1 σ q h
  unfold f_X12_chain_41 at h
  refine aw_seq [(.ior, 1, ax0), (.istore_n 2, 1, ax0), (.iinc 3 1, 3, (axI 1))] (pc' := 46) (L' := [some (aR 12 0 0), some (aI v1), some (aI (s0 ||| s1)), some (aI (v3 + 1)), none, none]) (stk' := []) (σ' := σ) (g := []) (by decide +kernel) rfl rfl ?_
  refine aw_goto (off := (-31)) (tgt := 15) (by decide +kernel) (by decide) ?_
  refine aw_forget (L' := [some (aR 12 0 0), some (aI v1), some (aI (s0 ||| s1)), some (aI (v3 + 1)), none, none]) (lsub_s (lsub_s (lsub_s (lsub_s (lsub_n (lsub_n (lsub_0))))))) ?_
  exact hrec_15 v1 (s0 ||| s1) (v3 + 1) σ _ h
def f_X12_chain_100  (rec_63 : Int32 → Int32 → Int32 → Int32 → Int32 → Sg → Option (Int32 × Sg)) (v1 : Int32) (v2 : Int32) (v3 : Int32) (v4 : Int32) (v5 : Int32) (σ : Sg) : Option (Int32 × Sg) :=
  rec_63 v1 v2 v3 v4 (v5 + 1) σ
set_option maxRecDepth 100000 in
set_option maxHeartbeats 4000000 in
theorem ok_X12_chain_100 {κ : Kd}   {rec_63 : Int32 → Int32 → Int32 → Int32 → Int32 → Sg → Option (Int32 × Sg)} (hrec_63 : ∀ (v1 : Int32) (v2 : Int32) (v3 : Int32) (v4 : Int32) (v5 : Int32) (σ : Sg) (q : (Int32 × Sg)), rec_63 v1 v2 v3 v4 v5 σ = some q → AW κ pX12_chain 4 (some (aI q.1), q.2) 63 [some (aR 12 0 0), some (aI v1), some (aI v2), some (aI v3), some (aI v4), some (aI v5)] [] σ) : ∀ (v1 : Int32) (v2 : Int32) (v3 : Int32) (v4 : Int32) (v5 : Int32) (σ : Sg) (q : (Int32 × Sg)), f_X12_chain_100 rec_63 v1 v2 v3 v4 v5 σ = some q → AW κ pX12_chain 4 (some (aI q.1), q.2) 100 [some (aR 12 0 0), some (aI v1), some (aI v2), some (aI v3), some (aI v4), some (aI v5)] [] σ := by
  intro v1 v2 v3 v4 v5 σ q h
  unfold f_X12_chain_100 at h
  refine aw_seq [(.iinc 5 1, 3, (axI 1))] (pc' := 103) (L' := [some (aR 12 0 0), some (aI v1), some (aI v2), some (aI v3), some (aI v4), some (aI (v5 + 1))]) (stk' := []) (σ' := σ) (g := []) (by decide +kernel) rfl rfl ?_
  refine aw_goto (off := (-40)) (tgt := 63) (by decide +kernel) (by decide) ?_
  refine aw_forget (L' := [some (aR 12 0 0), some (aI v1), some (aI v2), some (aI v3), some (aI v4), some (aI (v5 + 1))]) (lsub_s (lsub_s (lsub_s (lsub_s (lsub_s (lsub_s (lsub_0))))))) ?_
  exact hrec_63 v1 v2 v3 v4 (v5 + 1) σ _ h
def f_X12_chain_63  (rec_51 : Int32 → Int32 → Int32 → Sg → Option (Int32 × Sg)) : Nat → Int32 → Int32 → Int32 → Int32 → Int32 → Sg → Option (Int32 × Sg)
  | 0, _, _, _, _, _, _ => none
  | fu + 1, v1, v2, v3, v4, v5, σ =>
    grd (inb 0 1986 && true) <|
    if (σ.1 1 (ix 0)) ≤ v5 then (
      bnd (f_X12_has v4 v1 σ) fun r3 σ2 =>
      if r3 = 0 then (
        rec_51 v1 v4 (v3 + 1) σ2
      ) else (
        some (v3, σ2)
      )
    ) else (
      bnd (f_X12_has v2 v5 σ) fun r6 σ5 =>
      if r6 = 0 then (
        f_X12_chain_100 (f_X12_chain_63 rec_51 fu) v1 v2 v3 v4 v5 σ5
      ) else (
        bnd (f_X12_beside v5 σ5) fun r9 σ8 =>
        bnd (f_X12_allOf 0 σ8) fun r12 σ11 =>
        f_X12_chain_100 (f_X12_chain_63 rec_51 fu) v1 v2 v3 (v4 ||| (r9 &&& r12)) v5 σ11
      )
    )
set_option maxRecDepth 100000 in
set_option maxHeartbeats 4000000 in
theorem ok_X12_chain_63 {κ : Kd}   {rec_51 : Int32 → Int32 → Int32 → Sg → Option (Int32 × Sg)} (hrec_51 : ∀ (v1 : Int32) (v2 : Int32) (v3 : Int32) (σ : Sg) (q : (Int32 × Sg)), rec_51 v1 v2 v3 σ = some q → AW κ pX12_chain 4 (some (aI q.1), q.2) 51 [some (aR 12 0 0), some (aI v1), some (aI v2), some (aI v3), none, none] [] σ) : ∀ (fu : Nat) (v1 : Int32) (v2 : Int32) (v3 : Int32) (v4 : Int32) (v5 : Int32) (σ : Sg) (q : (Int32 × Sg)), f_X12_chain_63 rec_51 fu v1 v2 v3 v4 v5 σ = some q → AW κ pX12_chain 4 (some (aI q.1), q.2) 63 [some (aR 12 0 0), some (aI v1), some (aI v2), some (aI v3), some (aI v4), some (aI v5)] [] σ := by
  intro fu
  induction fu with
  | zero =>
    intro v1 v2 v3 v4 v5 σ q h
    unfold f_X12_chain_63 at h
    cases h
  | succ fu ih =>
    intro v1 v2 v3 v4 v5 σ q h
    unfold f_X12_chain_63 at h
    obtain ⟨hg, h⟩ := grd_some h
    refine aw_seq [(.iload 5, 2, ax0), (.aload_n 0, 1, ax0), (.getfield 7, 3, (axF 12 0 (2, 1, 13, some 1986))), (.iconst 0, 1, (axI 0)), (.iaload, 1, ax0)] (pc' := 71) (L' := [some (aR 12 0 0), some (aI v1), some (aI v2), some (aI v3), some (aI v4), some (aI v5)]) (stk' := [aI (σ.1 1 (ix 0)), aI v5]) (σ' := σ) (g := [inb 0 1986]) (by decide +kernel) rfl hg ?_
    refine aw_icmp_ge (off := 35) (tgt := 106) (by decide +kernel) (by decide) (fun c1 => ?_) (fun c1 => ?_)
    · rw [if_pos c1] at h
      refine aw_seq [(.iload 4, 2, ax0), (.iload_n 1, 1, ax0)] (pc' := 109) (L' := [some (aR 12 0 0), some (aI v1), some (aI v2), some (aI v3), some (aI v4), some (aI v5)]) (stk' := [aI v1, aI v4]) (σ' := σ) (g := []) (by decide +kernel) rfl rfl ?_
      obtain ⟨r3, σ2, h1, h⟩ := bnd_some h
      refine aw_cS (P' := pX12_has) (idx := 250) (d' := 1) [aI v4, aI v1] [] (ov := (some (aI r3))) (stk2 := [aI r3]) okp_X12_has (by decide +kernel) ml_RX12_250 tok_X12_has nar_X12_has (by decide) rfl (Nat.le_of_ble_eq_true rfl) (ok_X12_has h1) rfl ?_
      refine aw_if_eq (off := 5) (tgt := 117) (by decide +kernel) (by decide) (fun c1 => ?_) (fun c1 => ?_)
      · rw [if_pos c1] at h
        refine aw_seq [(.iload 4, 2, ax0), (.istore_n 2, 1, ax0), (.iinc 3 1, 3, (axI 1))] (pc' := 123) (L' := [some (aR 12 0 0), some (aI v1), some (aI v4), some (aI (v3 + 1)), some (aI v4), some (aI v5)]) (stk' := []) (σ' := σ2) (g := []) (by decide +kernel) rfl rfl ?_
        refine aw_goto (off := (-72)) (tgt := 51) (by decide +kernel) (by decide) ?_
        refine aw_forget (L' := [some (aR 12 0 0), some (aI v1), some (aI v4), some (aI (v3 + 1)), none, none]) (lsub_s (lsub_s (lsub_s (lsub_s (lsub_n (lsub_n (lsub_0))))))) ?_
        exact hrec_51 v1 v4 (v3 + 1) σ2 _ h
      · rw [if_neg c1] at h
        refine aw_seq [(.iload_n 3, 1, ax0)] (pc' := 116) (L' := [some (aR 12 0 0), some (aI v1), some (aI v2), some (aI v3), some (aI v4), some (aI v5)]) (stk' := [aI v3]) (σ' := σ2) (g := []) (by decide +kernel) rfl rfl ?_
        cases h
        exact aw_iret rfl (by decide +kernel)
    · rw [if_neg c1] at h
      refine aw_seq [(.iload_n 2, 1, ax0), (.iload 5, 2, ax0)] (pc' := 77) (L' := [some (aR 12 0 0), some (aI v1), some (aI v2), some (aI v3), some (aI v4), some (aI v5)]) (stk' := [aI v5, aI v2]) (σ' := σ) (g := []) (by decide +kernel) rfl rfl ?_
      obtain ⟨r6, σ5, h4, h⟩ := bnd_some h
      refine aw_cS (P' := pX12_has) (idx := 250) (d' := 1) [aI v2, aI v5] [] (ov := (some (aI r6))) (stk2 := [aI r6]) okp_X12_has (by decide +kernel) ml_RX12_250 tok_X12_has nar_X12_has (by decide) rfl (Nat.le_of_ble_eq_true rfl) (ok_X12_has h4) rfl ?_
      refine aw_if_eq (off := 20) (tgt := 100) (by decide +kernel) (by decide) (fun c1 => ?_) (fun c1 => ?_)
      · rw [if_pos c1] at h
        refine aw_forget (L' := [some (aR 12 0 0), some (aI v1), some (aI v2), some (aI v3), some (aI v4), some (aI v5)]) (lsub_s (lsub_s (lsub_s (lsub_s (lsub_s (lsub_s (lsub_0))))))) ?_
        exact ok_X12_chain_100 ih v1 v2 v3 v4 v5 σ5 _ h
      · rw [if_neg c1] at h
        refine aw_seq [(.iload 4, 2, ax0), (.aload_n 0, 1, ax0), (.iload 5, 2, ax0)] (pc' := 88) (L' := [some (aR 12 0 0), some (aI v1), some (aI v2), some (aI v3), some (aI v4), some (aI v5)]) (stk' := [aI v5, aR 12 0 0, aI v4]) (σ' := σ5) (g := []) (by decide +kernel) rfl rfl ?_
        obtain ⟨r9, σ8, h7, h⟩ := bnd_some h
        refine aw_cV (P' := pX12_beside) (idx := 294) (d' := 2) (c := 12) (n := 0) (k := 0) [aI v5] [aI v4] (ov := (some (aI r9))) (stk2 := [aI r9, aI v4]) okp_X12_beside (by decide +kernel) ml_RX12_294 vok_X12_beside (by decide) rfl nar_X12_beside (by decide) rfl (Nat.le_of_ble_eq_true rfl) (ok_X12_beside h7) rfl ?_
        refine aw_seq [(.aload_n 0, 1, ax0), (.iconst 0, 1, (axI 0))] (pc' := 93) (L' := [some (aR 12 0 0), some (aI v1), some (aI v2), some (aI v3), some (aI v4), some (aI v5)]) (stk' := [aI 0, aR 12 0 0, aI r9, aI v4]) (σ' := σ8) (g := []) (by decide +kernel) rfl rfl ?_
        obtain ⟨r12, σ11, h10, h⟩ := bnd_some h
        refine aw_cV (P' := pX12_allOf) (idx := 346) (d' := 2) (c := 12) (n := 0) (k := 0) [aI 0] [aI r9, aI v4] (ov := (some (aI r12))) (stk2 := [aI r12, aI r9, aI v4]) okp_X12_allOf (by decide +kernel) ml_RX12_346 vok_X12_allOf (by decide) rfl nar_X12_allOf (by decide) rfl (Nat.le_of_ble_eq_true rfl) (ok_X12_allOf h10) rfl ?_
        refine aw_seq [(.iand, 1, ax0), (.ior, 1, ax0), (.istore 4, 2, ax0)] (pc' := 100) (L' := [some (aR 12 0 0), some (aI v1), some (aI v2), some (aI v3), some (aI (v4 ||| (r9 &&& r12))), some (aI v5)]) (stk' := []) (σ' := σ11) (g := []) (by decide +kernel) rfl rfl ?_
        refine aw_forget (L' := [some (aR 12 0 0), some (aI v1), some (aI v2), some (aI v3), some (aI (v4 ||| (r9 &&& r12))), some (aI v5)]) (lsub_s (lsub_s (lsub_s (lsub_s (lsub_s (lsub_s (lsub_0))))))) ?_
        exact ok_X12_chain_100 ih v1 v2 v3 (v4 ||| (r9 &&& r12)) v5 σ11 _ h
def f_X12_chain_51   : Nat → Int32 → Int32 → Int32 → Sg → Option (Int32 × Sg)
  | 0, _, _, _, _ => none
  | fu + 1, v1, v2, v3, σ =>
    if 9 ≤ v3 then (
      some ((-1), σ)
    ) else (
      f_X12_chain_63 (f_X12_chain_51 fu) FU v1 v2 v3 v2 0 σ
    )
set_option maxRecDepth 100000 in
set_option maxHeartbeats 4000000 in
theorem ok_X12_chain_51 {κ : Kd}    : ∀ (fu : Nat) (v1 : Int32) (v2 : Int32) (v3 : Int32) (σ : Sg) (q : (Int32 × Sg)), f_X12_chain_51 fu v1 v2 v3 σ = some q → AW κ pX12_chain 4 (some (aI q.1), q.2) 51 [some (aR 12 0 0), some (aI v1), some (aI v2), some (aI v3), none, none] [] σ := by
  intro fu
  induction fu with
  | zero =>
    intro v1 v2 v3 σ q h
    unfold f_X12_chain_51 at h
    cases h
  | succ fu ih =>
    intro v1 v2 v3 σ q h
    unfold f_X12_chain_51 at h
    refine aw_seq [(.iload_n 3, 1, ax0), (.bipush 9, 2, (axI 9))] (pc' := 54) (L' := [some (aR 12 0 0), some (aI v1), some (aI v2), some (aI v3), none, none]) (stk' := [aI 9, aI v3]) (σ' := σ) (g := []) (by decide +kernel) rfl rfl ?_
    refine aw_icmp_ge (off := 72) (tgt := 126) (by decide +kernel) (by decide) (fun c1 => ?_) (fun c1 => ?_)
    · rw [if_pos c1] at h
      refine aw_seq [(.iconst (-1), 1, (axI (-1)))] (pc' := 127) (L' := [some (aR 12 0 0), some (aI v1), some (aI v2), some (aI v3), none, none]) (stk' := [aI (-1)]) (σ' := σ) (g := []) (by decide +kernel) rfl rfl ?_
      cases h
      exact aw_iret rfl (by decide +kernel)
    · rw [if_neg c1] at h
      refine aw_seq [(.iload_n 2, 1, ax0), (.istore 4, 2, ax0), (.iconst 0, 1, (axI 0)), (.istore 5, 2, ax0)] (pc' := 63) (L' := [some (aR 12 0 0), some (aI v1), some (aI v2), some (aI v3), some (aI v2), some (aI 0)]) (stk' := []) (σ' := σ) (g := []) (by decide +kernel) rfl rfl ?_
      refine aw_forget (L' := [some (aR 12 0 0), some (aI v1), some (aI v2), some (aI v3), some (aI v2), some (aI 0)]) (lsub_s (lsub_s (lsub_s (lsub_s (lsub_s (lsub_s (lsub_0))))))) ?_
      exact ok_X12_chain_63 ih FU v1 v2 v3 v2 0 σ _ h
def f_X12_chain_15   : Nat → Int32 → Int32 → Int32 → Sg → Option (Int32 × Sg)
  | 0, _, _, _, _ => none
  | fu + 1, v1, v2, v3, σ =>
    grd (inb 0 1986 && true) <|
    if (σ.1 1 (ix 0)) ≤ v3 then (
      f_X12_chain_51 FU v1 v2 1 σ
    ) else (
      bnd (f_X12_isGiver v3 σ) fun r15 σ14 =>
      if r15 = 0 then (
        f_X12_chain_41 (f_X12_chain_15 fu) v1 v3 v2 0 σ14
      ) else (
        f_X12_chain_41 (f_X12_chain_15 fu) v1 v3 v2 (shl 1 v3) σ14
      )
    )
set_option maxRecDepth 100000 in
set_option maxHeartbeats 4000000 in
theorem ok_X12_chain_15 {κ : Kd}    : ∀ (fu : Nat) (v1 : Int32) (v2 : Int32) (v3 : Int32) (σ : Sg) (q : (Int32 × Sg)), f_X12_chain_15 fu v1 v2 v3 σ = some q → AW κ pX12_chain 4 (some (aI q.1), q.2) 15 [some (aR 12 0 0), some (aI v1), some (aI v2), some (aI v3), none, none] [] σ := by
  intro fu
  induction fu with
  | zero =>
    intro v1 v2 v3 σ q h
    unfold f_X12_chain_15 at h
    cases h
  | succ fu ih =>
    intro v1 v2 v3 σ q h
    unfold f_X12_chain_15 at h
    obtain ⟨hg, h⟩ := grd_some h
    refine aw_seq [(.iload_n 3, 1, ax0), (.aload_n 0, 1, ax0), (.getfield 7, 3, (axF 12 0 (2, 1, 13, some 1986))), (.iconst 0, 1, (axI 0)), (.iaload, 1, ax0)] (pc' := 22) (L' := [some (aR 12 0 0), some (aI v1), some (aI v2), some (aI v3), none, none]) (stk' := [aI (σ.1 1 (ix 0)), aI v3]) (σ' := σ) (g := [inb 0 1986]) (by decide +kernel) rfl hg ?_
    refine aw_icmp_ge (off := 27) (tgt := 49) (by decide +kernel) (by decide) (fun c1 => ?_) (fun c1 => ?_)
    · rw [if_pos c1] at h
      refine aw_seq [(.iconst 1, 1, (axI 1)), (.istore_n 3, 1, ax0)] (pc' := 51) (L' := [some (aR 12 0 0), some (aI v1), some (aI v2), some (aI 1), none, none]) (stk' := []) (σ' := σ) (g := []) (by decide +kernel) rfl rfl ?_
      refine aw_forget (L' := [some (aR 12 0 0), some (aI v1), some (aI v2), some (aI 1), none, none]) (lsub_s (lsub_s (lsub_s (lsub_s (lsub_n (lsub_n (lsub_0))))))) ?_
      exact ok_X12_chain_51 FU v1 v2 1 σ _ h
    · rw [if_neg c1] at h
      refine aw_seq [(.iload_n 2, 1, ax0), (.aload_n 0, 1, ax0), (.iload_n 3, 1, ax0)] (pc' := 28) (L' := [some (aR 12 0 0), some (aI v1), some (aI v2), some (aI v3), none, none]) (stk' := [aI v3, aR 12 0 0, aI v2]) (σ' := σ) (g := []) (by decide +kernel) rfl rfl ?_
      obtain ⟨r15, σ14, h13, h⟩ := bnd_some h
      refine aw_cV (P' := pX12_isGiver) (idx := 364) (d' := 3) (c := 12) (n := 0) (k := 0) [aI v3] [aI v2] (ov := (some (aI r15))) (stk2 := [aI r15, aI v2]) okp_X12_isGiver (by decide +kernel) ml_RX12_364 vok_X12_isGiver (by decide) rfl nar_X12_isGiver (by decide) rfl (Nat.le_of_ble_eq_true rfl) (ok_X12_isGiver h13) rfl ?_
      refine aw_if_eq (off := 9) (tgt := 40) (by decide +kernel) (by decide) (fun c1 => ?_) (fun c1 => ?_)
      · rw [if_pos c1] at h
        refine aw_seq [(.iconst 0, 1, (axI 0))] (pc' := 41) (L' := [some (aR 12 0 0), some (aI v1), some (aI v2), some (aI v3), none, none]) (stk' := [aI 0, aI v2]) (σ' := σ14) (g := []) (by decide +kernel) rfl rfl ?_
        refine aw_forget (L' := [some (aR 12 0 0), some (aI v1), none, some (aI v3), none, none]) (lsub_s (lsub_s (lsub_n (lsub_s (lsub_n (lsub_n (lsub_0))))))) ?_
        exact ok_X12_chain_41 ih v1 v3 v2 0 σ14 _ h
      · rw [if_neg c1] at h
        refine aw_seq [(.iconst 1, 1, (axI 1)), (.iload_n 3, 1, ax0), (.ishl, 1, ax0)] (pc' := 37) (L' := [some (aR 12 0 0), some (aI v1), some (aI v2), some (aI v3), none, none]) (stk' := [aI (shl 1 v3), aI v2]) (σ' := σ14) (g := []) (by decide +kernel) rfl rfl ?_
        refine aw_goto (off := 4) (tgt := 41) (by decide +kernel) (by decide) ?_
        refine aw_forget (L' := [some (aR 12 0 0), some (aI v1), none, some (aI v3), none, none]) (lsub_s (lsub_s (lsub_n (lsub_s (lsub_n (lsub_n (lsub_0))))))) ?_
        exact ok_X12_chain_41 ih v1 v3 v2 (shl 1 v3) σ14 _ h
def f_X12_chain (v1 : Int32) (σ : Sg) : Option (Int32 × Sg) :=
  bnd (f_X12_isSo v1 0 σ) fun r18 σ17 =>
  if r18 = 0 then (
    some ((-1), σ17)
  ) else (
    f_X12_chain_15 FU v1 0 0 σ17
  )
set_option maxRecDepth 100000 in
set_option maxHeartbeats 4000000 in
theorem ok_X12_chain {κ : Kd} {v1 : Int32} {σ : Sg} {q : (Int32 × Sg)} (h : f_X12_chain v1 σ = some q) : AMet κ pX12_chain 4 [aR 12 0 0, aI v1] σ (some (aI q.1), q.2) := by
  unfold f_X12_chain at h
  refine amet_of okp_X12_chain [(false, aR 12 0 0), (false, aI v1)] (List.forall_mem_cons.mpr ⟨rfl, List.forall_mem_cons.mpr ⟨rfl, (fun _ hn => absurd hn List.not_mem_nil)⟩⟩) 4 rfl ?_
  show AW κ pX12_chain 4 (some (aI q.1), q.2) 0 [some (aR 12 0 0), some (aI v1), none, none, none, none] [] σ
  refine aw_seq [(.aload_n 0, 1, ax0), (.iload_n 1, 1, ax0), (.iconst 0, 1, (axI 0))] (pc' := 3) (L' := [some (aR 12 0 0), some (aI v1), none, none, none, none]) (stk' := [aI 0, aI v1, aR 12 0 0]) (σ' := σ) (g := []) (by decide +kernel) rfl rfl ?_
  obtain ⟨r18, σ17, h16, h⟩ := bnd_some h
  refine aw_cV (P' := pX12_isSo) (idx := 352) (d' := 3) (c := 12) (n := 0) (k := 0) [aI v1, aI 0] [] (ov := (some (aI r18))) (stk2 := [aI r18]) okp_X12_isSo (by decide +kernel) ml_RX12_352 vok_X12_isSo (by decide) rfl nar_X12_isSo (by decide) rfl (Nat.le_of_ble_eq_true rfl) (ok_X12_isSo h16) rfl ?_
  refine aw_if_ne (off := 5) (tgt := 11) (by decide +kernel) (by decide) (fun c1 => ?_) (fun c1 => ?_)
  · rw [if_neg c1] at h
    refine aw_seq [(.iconst 0, 1, (axI 0)), (.istore_n 2, 1, ax0), (.iconst 0, 1, (axI 0)), (.istore_n 3, 1, ax0)] (pc' := 15) (L' := [some (aR 12 0 0), some (aI v1), some (aI 0), some (aI 0), none, none]) (stk' := []) (σ' := σ17) (g := []) (by decide +kernel) rfl rfl ?_
    refine aw_forget (L' := [some (aR 12 0 0), some (aI v1), some (aI 0), some (aI 0), none, none]) (lsub_s (lsub_s (lsub_s (lsub_s (lsub_n (lsub_n (lsub_0))))))) ?_
    exact ok_X12_chain_15 FU v1 0 0 σ17 _ h
  · rw [if_pos c1] at h
    refine aw_seq [(.iconst (-1), 1, (axI (-1)))] (pc' := 10) (L' := [some (aR 12 0 0), some (aI v1), none, none, none, none]) (stk' := [aI (-1)]) (σ' := σ17) (g := []) (by decide +kernel) rfl rfl ?_
    cases h
    exact aw_iret rfl (by decide +kernel)
def f_X12_largest_45  (rec_4 : Int32 → Int32 → Int32 → Sg → Option (Int32 × Sg)) (v1 : Int32) (v2 : Int32) (v3 : Int32) (σ : Sg) : Option (Int32 × Sg) :=
  rec_4 v1 v2 (v3 + 1) σ
set_option maxRecDepth 100000 in
set_option maxHeartbeats 4000000 in
theorem ok_X12_largest_45 {κ : Kd}   {rec_4 : Int32 → Int32 → Int32 → Sg → Option (Int32 × Sg)} (hrec_4 : ∀ (v1 : Int32) (v2 : Int32) (v3 : Int32) (σ : Sg) (q : (Int32 × Sg)), rec_4 v1 v2 v3 σ = some q → AW κ pX12_largest 4 (some (aI q.1), q.2) 4 [some (aR 12 0 0), some (aI v1), some (aI v2), some (aI v3)] [] σ) : ∀ (v1 : Int32) (v2 : Int32) (v3 : Int32) (σ : Sg) (q : (Int32 × Sg)), f_X12_largest_45 rec_4 v1 v2 v3 σ = some q → AW κ pX12_largest 4 (some (aI q.1), q.2) 45 [some (aR 12 0 0), some (aI v1), some (aI v2), some (aI v3)] [] σ := by
  intro v1 v2 v3 σ q h
  unfold f_X12_largest_45 at h
  refine aw_seq [(.iinc 3 1, 3, (axI 1))] (pc' := 48) (L' := [some (aR 12 0 0), some (aI v1), some (aI v2), some (aI (v3 + 1))]) (stk' := []) (σ' := σ) (g := []) (by decide +kernel) rfl rfl ?_
  refine aw_goto (off := (-44)) (tgt := 4) (by decide +kernel) (by decide) ?_
  refine aw_forget (L' := [some (aR 12 0 0), some (aI v1), some (aI v2), some (aI (v3 + 1))]) (lsub_s (lsub_s (lsub_s (lsub_s (lsub_0))))) ?_
  exact hrec_4 v1 v2 (v3 + 1) σ _ h
def f_X12_largest_4   : Nat → Int32 → Int32 → Int32 → Sg → Option (Int32 × Sg)
  | 0, _, _, _, _ => none
  | fu + 1, v1, v2, v3, σ =>
    grd (inb 0 1986 && true) <|
    if (σ.1 1 (ix 0)) ≤ v3 then (
      some (v2, σ)
    ) else (
      bnd (f_X12_has v1 v3 σ) fun r3 σ2 =>
      if r3 = 0 then (
        f_X12_largest_45 (f_X12_largest_4 fu) v1 v2 v3 σ2
      ) else (
        bnd (f_X12_heapOf v3 v1 σ2) fun r6 σ5 =>
        bnd (f_X12_bits r6 σ5) fun r9 σ8 =>
        if r9 ≤ v2 then (
          f_X12_largest_45 (f_X12_largest_4 fu) v1 v2 v3 σ8
        ) else (
          bnd (f_X12_heapOf v3 v1 σ8) fun r12 σ11 =>
          bnd (f_X12_bits r12 σ11) fun r15 σ14 =>
          f_X12_largest_45 (f_X12_largest_4 fu) v1 r15 v3 σ14
        )
      )
    )
set_option maxRecDepth 100000 in
set_option maxHeartbeats 4000000 in
theorem ok_X12_largest_4 {κ : Kd}    : ∀ (fu : Nat) (v1 : Int32) (v2 : Int32) (v3 : Int32) (σ : Sg) (q : (Int32 × Sg)), f_X12_largest_4 fu v1 v2 v3 σ = some q → AW κ pX12_largest 4 (some (aI q.1), q.2) 4 [some (aR 12 0 0), some (aI v1), some (aI v2), some (aI v3)] [] σ := by
  intro fu
  induction fu with
  | zero =>
    intro v1 v2 v3 σ q h
    unfold f_X12_largest_4 at h
    cases h
  | succ fu ih =>
    intro v1 v2 v3 σ q h
    unfold f_X12_largest_4 at h
    obtain ⟨hg, h⟩ := grd_some h
    refine aw_seq [(.iload_n 3, 1, ax0), (.aload_n 0, 1, ax0), (.getfield 7, 3, (axF 12 0 (2, 1, 13, some 1986))), (.iconst 0, 1, (axI 0)), (.iaload, 1, ax0)] (pc' := 11) (L' := [some (aR 12 0 0), some (aI v1), some (aI v2), some (aI v3)]) (stk' := [aI (σ.1 1 (ix 0)), aI v3]) (σ' := σ) (g := [inb 0 1986]) (by decide +kernel) rfl hg ?_
    refine aw_icmp_ge (off := 40) (tgt := 51) (by decide +kernel) (by decide) (fun c1 => ?_) (fun c1 => ?_)
    · rw [if_pos c1] at h
      refine aw_seq [(.iload_n 2, 1, ax0)] (pc' := 52) (L' := [some (aR 12 0 0), some (aI v1), some (aI v2), some (aI v3)]) (stk' := [aI v2]) (σ' := σ) (g := []) (by decide +kernel) rfl rfl ?_
      cases h
      exact aw_iret rfl (by decide +kernel)
    · rw [if_neg c1] at h
      refine aw_seq [(.iload_n 1, 1, ax0), (.iload_n 3, 1, ax0)] (pc' := 16) (L' := [some (aR 12 0 0), some (aI v1), some (aI v2), some (aI v3)]) (stk' := [aI v3, aI v1]) (σ' := σ) (g := []) (by decide +kernel) rfl rfl ?_
      obtain ⟨r3, σ2, h1, h⟩ := bnd_some h
      refine aw_cS (P' := pX12_has) (idx := 250) (d' := 1) [aI v1, aI v3] [] (ov := (some (aI r3))) (stk2 := [aI r3]) okp_X12_has (by decide +kernel) ml_RX12_250 tok_X12_has nar_X12_has (by decide) rfl (Nat.le_of_ble_eq_true rfl) (ok_X12_has h1) rfl ?_
      refine aw_if_eq (off := 26) (tgt := 45) (by decide +kernel) (by decide) (fun c1 => ?_) (fun c1 => ?_)
      · rw [if_pos c1] at h
        refine aw_forget (L' := [some (aR 12 0 0), some (aI v1), some (aI v2), some (aI v3)]) (lsub_s (lsub_s (lsub_s (lsub_s (lsub_0))))) ?_
        exact ok_X12_largest_45 ih v1 v2 v3 σ2 _ h
      · rw [if_neg c1] at h
        refine aw_seq [(.aload_n 0, 1, ax0), (.iload_n 3, 1, ax0), (.iload_n 1, 1, ax0)] (pc' := 25) (L' := [some (aR 12 0 0), some (aI v1), some (aI v2), some (aI v3)]) (stk' := [aI v1, aI v3, aR 12 0 0]) (σ' := σ2) (g := []) (by decide +kernel) rfl rfl ?_
        obtain ⟨r6, σ5, h4, h⟩ := bnd_some h
        refine aw_cV (P' := pX12_heapOf) (idx := 421) (d' := 3) (c := 12) (n := 0) (k := 0) [aI v3, aI v1] [] (ov := (some (aI r6))) (stk2 := [aI r6]) okp_X12_heapOf (by decide +kernel) ml_RX12_421 vok_X12_heapOf (by decide) rfl nar_X12_heapOf (by decide) rfl (Nat.le_of_ble_eq_true rfl) (ok_X12_heapOf h4) rfl ?_
        obtain ⟨r9, σ8, h7, h⟩ := bnd_some h
        refine aw_cS (P' := pX12_bits) (idx := 300) (d' := 1) [aI r6] [] (ov := (some (aI r9))) (stk2 := [aI r9]) okp_X12_bits (by decide +kernel) ml_RX12_300 tok_X12_bits nar_X12_bits (by decide) rfl (Nat.le_of_ble_eq_true rfl) (ok_X12_bits h7) rfl ?_
        refine aw_seq [(.iload_n 2, 1, ax0)] (pc' := 32) (L' := [some (aR 12 0 0), some (aI v1), some (aI v2), some (aI v3)]) (stk' := [aI v2, aI r9]) (σ' := σ8) (g := []) (by decide +kernel) rfl rfl ?_
        refine aw_icmp_le (off := 13) (tgt := 45) (by decide +kernel) (by decide) (fun c1 => ?_) (fun c1 => ?_)
        · rw [if_pos c1] at h
          refine aw_forget (L' := [some (aR 12 0 0), some (aI v1), some (aI v2), some (aI v3)]) (lsub_s (lsub_s (lsub_s (lsub_s (lsub_0))))) ?_
          exact ok_X12_largest_45 ih v1 v2 v3 σ8 _ h
        · rw [if_neg c1] at h
          refine aw_seq [(.aload_n 0, 1, ax0), (.iload_n 3, 1, ax0), (.iload_n 1, 1, ax0)] (pc' := 38) (L' := [some (aR 12 0 0), some (aI v1), some (aI v2), some (aI v3)]) (stk' := [aI v1, aI v3, aR 12 0 0]) (σ' := σ8) (g := []) (by decide +kernel) rfl rfl ?_
          obtain ⟨r12, σ11, h10, h⟩ := bnd_some h
          refine aw_cV (P' := pX12_heapOf) (idx := 421) (d' := 3) (c := 12) (n := 0) (k := 0) [aI v3, aI v1] [] (ov := (some (aI r12))) (stk2 := [aI r12]) okp_X12_heapOf (by decide +kernel) ml_RX12_421 vok_X12_heapOf (by decide) rfl nar_X12_heapOf (by decide) rfl (Nat.le_of_ble_eq_true rfl) (ok_X12_heapOf h10) rfl ?_
          obtain ⟨r15, σ14, h13, h⟩ := bnd_some h
          refine aw_cS (P' := pX12_bits) (idx := 300) (d' := 1) [aI r12] [] (ov := (some (aI r15))) (stk2 := [aI r15]) okp_X12_bits (by decide +kernel) ml_RX12_300 tok_X12_bits nar_X12_bits (by decide) rfl (Nat.le_of_ble_eq_true rfl) (ok_X12_bits h13) rfl ?_
          refine aw_seq [(.istore_n 2, 1, ax0)] (pc' := 45) (L' := [some (aR 12 0 0), some (aI v1), some (aI r15), some (aI v3)]) (stk' := []) (σ' := σ14) (g := []) (by decide +kernel) rfl rfl ?_
          refine aw_forget (L' := [some (aR 12 0 0), some (aI v1), some (aI r15), some (aI v3)]) (lsub_s (lsub_s (lsub_s (lsub_s (lsub_0))))) ?_
          exact ok_X12_largest_45 ih v1 r15 v3 σ14 _ h
def f_X12_largest (v1 : Int32) (σ : Sg) : Option (Int32 × Sg) :=
  f_X12_largest_4 FU v1 0 0 σ
set_option maxRecDepth 100000 in
set_option maxHeartbeats 4000000 in
theorem ok_X12_largest {κ : Kd} {v1 : Int32} {σ : Sg} {q : (Int32 × Sg)} (h : f_X12_largest v1 σ = some q) : AMet κ pX12_largest 4 [aR 12 0 0, aI v1] σ (some (aI q.1), q.2) := by
  unfold f_X12_largest at h
  refine amet_of okp_X12_largest [(false, aR 12 0 0), (false, aI v1)] (List.forall_mem_cons.mpr ⟨rfl, List.forall_mem_cons.mpr ⟨rfl, (fun _ hn => absurd hn List.not_mem_nil)⟩⟩) 2 rfl ?_
  show AW κ pX12_largest 4 (some (aI q.1), q.2) 0 [some (aR 12 0 0), some (aI v1), none, none] [] σ
  refine aw_seq [(.iconst 0, 1, (axI 0)), (.istore_n 2, 1, ax0), (.iconst 0, 1, (axI 0)), (.istore_n 3, 1, ax0)] (pc' := 4) (L' := [some (aR 12 0 0), some (aI v1), some (aI 0), some (aI 0)]) (stk' := []) (σ' := σ) (g := []) (by decide +kernel) rfl rfl ?_
  refine aw_forget (L' := [some (aR 12 0 0), some (aI v1), some (aI 0), some (aI 0)]) (lsub_s (lsub_s (lsub_s (lsub_s (lsub_0))))) ?_
  exact ok_X12_largest_4 FU v1 0 0 σ _ h
def f_X12_stone_99  (rec_27 : Int32 → Int32 → Int32 → Int32 → Int32 → Sg → Option (Int32 × Sg)) (v1 : Int32) (v2 : Int32) (v3 : Int32) (v4 : Int32) (v5 : Int32) (σ : Sg) : Option (Int32 × Sg) :=
  rec_27 v1 v2 v3 v4 (v5 + 1) σ
set_option maxRecDepth 100000 in
set_option maxHeartbeats 4000000 in
theorem ok_X12_stone_99 {κ : Kd}   {rec_27 : Int32 → Int32 → Int32 → Int32 → Int32 → Sg → Option (Int32 × Sg)} (hrec_27 : ∀ (v1 : Int32) (v2 : Int32) (v3 : Int32) (v4 : Int32) (v5 : Int32) (σ : Sg) (q : (Int32 × Sg)), rec_27 v1 v2 v3 v4 v5 σ = some q → AW κ pX12_stone 5 (some (aI q.1), q.2) 27 [some (aR 12 0 0), some (aI v1), some (aI v2), some (aI v3), some (aI v4), some (aI v5), none] [] σ) : ∀ (v1 : Int32) (v2 : Int32) (v3 : Int32) (v4 : Int32) (v5 : Int32) (σ : Sg) (q : (Int32 × Sg)), f_X12_stone_99 rec_27 v1 v2 v3 v4 v5 σ = some q → AW κ pX12_stone 5 (some (aI q.1), q.2) 99 [some (aR 12 0 0), some (aI v1), some (aI v2), some (aI v3), some (aI v4), some (aI v5), none] [] σ := by
  intro v1 v2 v3 v4 v5 σ q h
  unfold f_X12_stone_99 at h
  refine aw_seq [(.iinc 5 1, 3, (axI 1))] (pc' := 102) (L' := [some (aR 12 0 0), some (aI v1), some (aI v2), some (aI v3), some (aI v4), some (aI (v5 + 1)), none]) (stk' := []) (σ' := σ) (g := []) (by decide +kernel) rfl rfl ?_
  refine aw_goto (off := (-75)) (tgt := 27) (by decide +kernel) (by decide) ?_
  refine aw_forget (L' := [some (aR 12 0 0), some (aI v1), some (aI v2), some (aI v3), some (aI v4), some (aI (v5 + 1)), none]) (lsub_s (lsub_s (lsub_s (lsub_s (lsub_s (lsub_s (lsub_n (lsub_0)))))))) ?_
  exact hrec_27 v1 v2 v3 v4 (v5 + 1) σ _ h
def f_X12_stone_92  (rec_27 : Int32 → Int32 → Int32 → Int32 → Int32 → Sg → Option (Int32 × Sg)) (v1 : Int32) (v2 : Int32) (v5 : Int32) (v6 : Int32) (σ : Sg) : Option (Int32 × Sg) :=
  f_X12_stone_99 rec_27 v1 v2 v5 v6 v5 σ
set_option maxRecDepth 100000 in
set_option maxHeartbeats 4000000 in
theorem ok_X12_stone_92 {κ : Kd}   {rec_27 : Int32 → Int32 → Int32 → Int32 → Int32 → Sg → Option (Int32 × Sg)} (hrec_27 : ∀ (v1 : Int32) (v2 : Int32) (v3 : Int32) (v4 : Int32) (v5 : Int32) (σ : Sg) (q : (Int32 × Sg)), rec_27 v1 v2 v3 v4 v5 σ = some q → AW κ pX12_stone 5 (some (aI q.1), q.2) 27 [some (aR 12 0 0), some (aI v1), some (aI v2), some (aI v3), some (aI v4), some (aI v5), none] [] σ) : ∀ (v1 : Int32) (v2 : Int32) (v5 : Int32) (v6 : Int32) (σ : Sg) (q : (Int32 × Sg)), f_X12_stone_92 rec_27 v1 v2 v5 v6 σ = some q → AW κ pX12_stone 5 (some (aI q.1), q.2) 92 [some (aR 12 0 0), some (aI v1), some (aI v2), none, none, some (aI v5), some (aI v6)] [] σ := by
  intro v1 v2 v5 v6 σ q h
  unfold f_X12_stone_92 at h
  refine aw_seq [(.iload 6, 2, ax0), (.istore 4, 2, ax0), (.iload 5, 2, ax0), (.istore_n 3, 1, ax0)] (pc' := 99) (L' := [some (aR 12 0 0), some (aI v1), some (aI v2), some (aI v5), some (aI v6), some (aI v5), some (aI v6)]) (stk' := []) (σ' := σ) (g := []) (by decide +kernel) rfl rfl ?_
  refine aw_forget (L' := [some (aR 12 0 0), some (aI v1), some (aI v2), some (aI v5), some (aI v6), some (aI v5), none]) (lsub_s (lsub_s (lsub_s (lsub_s (lsub_s (lsub_s (lsub_n (lsub_0)))))))) ?_
  exact ok_X12_stone_99 hrec_27 v1 v2 v5 v6 v5 σ _ h
def f_X12_stone_115   (s0 : Int32) (σ : Sg) : Option (Int32 × Sg) :=
  some (s0, σ)
set_option maxRecDepth 100000 in
set_option maxHeartbeats 4000000 in
theorem ok_X12_stone_115 {κ : Kd}    : ∀ (s0 : Int32) (σ : Sg) (q : (Int32 × Sg)), f_X12_stone_115 s0 σ = some q → AW κ pX12_stone 5 (some (aI q.1), q.2) 115 [none, none, none, none, none, none, none] [aI s0] σ := by
  intro s0 σ q h
  unfold f_X12_stone_115 at h
  cases h
  exact aw_iret rfl (by decide +kernel)
def f_X12_stone_27   : Nat → Int32 → Int32 → Int32 → Int32 → Int32 → Sg → Option (Int32 × Sg)
  | 0, _, _, _, _, _, _ => none
  | fu + 1, v1, v2, v3, v4, v5, σ =>
    bnd (f_X12_all σ) fun r3 σ2 =>
    if r3 < v5 then (
      if v2 = 0 then (
        f_X12_stone_115 v3 σ2
      ) else (
        f_X12_stone_115 v4 σ2
      )
    ) else (
      bnd (f_X12_bits v5 σ2) fun r6 σ5 =>
      if r6 ≤ v1 then (
        bnd (f_X12_all σ5) fun r9 σ8 =>
        bnd (f_X12_largest (r9 &&& (v5 ^^^ (-1))) σ8) fun r12 σ11 =>
        if v4 < r12 then (
          f_X12_stone_99 (f_X12_stone_27 fu) v1 v2 v3 v4 v5 σ11
        ) else (
          if r12 = v4 then (
            bnd (f_X12_bits v5 σ11) fun r15 σ14 =>
            bnd (f_X12_bits v3 σ14) fun r18 σ17 =>
            if r15 < r18 then (
              f_X12_stone_92 (f_X12_stone_27 fu) v1 v2 v5 r12 σ17
            ) else (
              f_X12_stone_99 (f_X12_stone_27 fu) v1 v2 v3 v4 v5 σ17
            )
          ) else (
            f_X12_stone_92 (f_X12_stone_27 fu) v1 v2 v5 r12 σ11
          )
        )
      ) else (
        f_X12_stone_99 (f_X12_stone_27 fu) v1 v2 v3 v4 v5 σ5
      )
    )
set_option maxRecDepth 100000 in
set_option maxHeartbeats 4000000 in
theorem ok_X12_stone_27 {κ : Kd}    : ∀ (fu : Nat) (v1 : Int32) (v2 : Int32) (v3 : Int32) (v4 : Int32) (v5 : Int32) (σ : Sg) (q : (Int32 × Sg)), f_X12_stone_27 fu v1 v2 v3 v4 v5 σ = some q → AW κ pX12_stone 5 (some (aI q.1), q.2) 27 [some (aR 12 0 0), some (aI v1), some (aI v2), some (aI v3), some (aI v4), some (aI v5), none] [] σ := by
  intro fu
  induction fu with
  | zero =>
    intro v1 v2 v3 v4 v5 σ q h
    unfold f_X12_stone_27 at h
    cases h
  | succ fu ih =>
    intro v1 v2 v3 v4 v5 σ q h
    unfold f_X12_stone_27 at h
    refine aw_seq [(.iload 5, 2, ax0), (.aload_n 0, 1, ax0)] (pc' := 30) (L' := [some (aR 12 0 0), some (aI v1), some (aI v2), some (aI v3), some (aI v4), some (aI v5), none]) (stk' := [aR 12 0 0, aI v5]) (σ' := σ) (g := []) (by decide +kernel) rfl rfl ?_
    obtain ⟨r3, σ2, h1, h⟩ := bnd_some h
    refine aw_cV (P' := pX12_all) (idx := 418) (d' := 1) (c := 12) (n := 0) (k := 0) [] [aI v5] (ov := (some (aI r3))) (stk2 := [aI r3, aI v5]) okp_X12_all (by decide +kernel) ml_RX12_418 vok_X12_all (by decide) rfl nar_X12_all (by decide) rfl (Nat.le_of_ble_eq_true rfl) (ok_X12_all h1) rfl ?_
    refine aw_icmp_gt (off := 72) (tgt := 105) (by decide +kernel) (by decide) (fun c1 => ?_) (fun c1 => ?_)
    · rw [if_pos c1] at h
      refine aw_seq [(.iload_n 2, 1, ax0)] (pc' := 106) (L' := [some (aR 12 0 0), some (aI v1), some (aI v2), some (aI v3), some (aI v4), some (aI v5), none]) (stk' := [aI v2]) (σ' := σ2) (g := []) (by decide +kernel) rfl rfl ?_
      refine aw_if_eq (off := 8) (tgt := 114) (by decide +kernel) (by decide) (fun c1 => ?_) (fun c1 => ?_)
      · rw [if_pos c1] at h
        refine aw_seq [(.iload_n 3, 1, ax0)] (pc' := 115) (L' := [some (aR 12 0 0), some (aI v1), some (aI v2), some (aI v3), some (aI v4), some (aI v5), none]) (stk' := [aI v3]) (σ' := σ2) (g := []) (by decide +kernel) rfl rfl ?_
        refine aw_forget (L' := [none, none, none, none, none, none, none]) (lsub_n (lsub_n (lsub_n (lsub_n (lsub_n (lsub_n (lsub_n (lsub_0)))))))) ?_
        exact ok_X12_stone_115 v3 σ2 _ h
      · rw [if_neg c1] at h
        refine aw_seq [(.iload 4, 2, ax0)] (pc' := 111) (L' := [some (aR 12 0 0), some (aI v1), some (aI v2), some (aI v3), some (aI v4), some (aI v5), none]) (stk' := [aI v4]) (σ' := σ2) (g := []) (by decide +kernel) rfl rfl ?_
        refine aw_goto (off := 4) (tgt := 115) (by decide +kernel) (by decide) ?_
        refine aw_forget (L' := [none, none, none, none, none, none, none]) (lsub_n (lsub_n (lsub_n (lsub_n (lsub_n (lsub_n (lsub_n (lsub_0)))))))) ?_
        exact ok_X12_stone_115 v4 σ2 _ h
    · rw [if_neg c1] at h
      refine aw_seq [(.iload 5, 2, ax0)] (pc' := 38) (L' := [some (aR 12 0 0), some (aI v1), some (aI v2), some (aI v3), some (aI v4), some (aI v5), none]) (stk' := [aI v5]) (σ' := σ2) (g := []) (by decide +kernel) rfl rfl ?_
      obtain ⟨r6, σ5, h4, h⟩ := bnd_some h
      refine aw_cS (P' := pX12_bits) (idx := 300) (d' := 1) [aI v5] [] (ov := (some (aI r6))) (stk2 := [aI r6]) okp_X12_bits (by decide +kernel) ml_RX12_300 tok_X12_bits nar_X12_bits (by decide) rfl (Nat.le_of_ble_eq_true rfl) (ok_X12_bits h4) rfl ?_
      refine aw_seq [(.iload_n 1, 1, ax0)] (pc' := 42) (L' := [some (aR 12 0 0), some (aI v1), some (aI v2), some (aI v3), some (aI v4), some (aI v5), none]) (stk' := [aI v1, aI r6]) (σ' := σ5) (g := []) (by decide +kernel) rfl rfl ?_
      refine aw_icmp_le (off := 6) (tgt := 48) (by decide +kernel) (by decide) (fun c1 => ?_) (fun c1 => ?_)
      · rw [if_pos c1] at h
        refine aw_seq [(.aload_n 0, 1, ax0), (.aload_n 0, 1, ax0)] (pc' := 50) (L' := [some (aR 12 0 0), some (aI v1), some (aI v2), some (aI v3), some (aI v4), some (aI v5), none]) (stk' := [aR 12 0 0, aR 12 0 0]) (σ' := σ5) (g := []) (by decide +kernel) rfl rfl ?_
        obtain ⟨r9, σ8, h7, h⟩ := bnd_some h
        refine aw_cV (P' := pX12_all) (idx := 418) (d' := 1) (c := 12) (n := 0) (k := 0) [] [aR 12 0 0] (ov := (some (aI r9))) (stk2 := [aI r9, aR 12 0 0]) okp_X12_all (by decide +kernel) ml_RX12_418 vok_X12_all (by decide) rfl nar_X12_all (by decide) rfl (Nat.le_of_ble_eq_true rfl) (ok_X12_all h7) rfl ?_
        refine aw_seq [(.iload 5, 2, ax0), (.iconst (-1), 1, (axI (-1))), (.ixor, 1, ax0), (.iand, 1, ax0)] (pc' := 58) (L' := [some (aR 12 0 0), some (aI v1), some (aI v2), some (aI v3), some (aI v4), some (aI v5), none]) (stk' := [aI (r9 &&& (v5 ^^^ (-1))), aR 12 0 0]) (σ' := σ8) (g := []) (by decide +kernel) rfl rfl ?_
        obtain ⟨r12, σ11, h10, h⟩ := bnd_some h
        refine aw_cV (P' := pX12_largest) (idx := 455) (d' := 4) (c := 12) (n := 0) (k := 0) [aI (r9 &&& (v5 ^^^ (-1)))] [] (ov := (some (aI r12))) (stk2 := [aI r12]) okp_X12_largest (by decide +kernel) ml_RX12_455 vok_X12_largest (by decide) rfl nar_X12_largest (by decide) rfl (Nat.le_of_ble_eq_true rfl) (ok_X12_largest h10) rfl ?_
        refine aw_seq [(.istore 6, 2, ax0), (.iload 6, 2, ax0), (.iload 4, 2, ax0)] (pc' := 67) (L' := [some (aR 12 0 0), some (aI v1), some (aI v2), some (aI v3), some (aI v4), some (aI v5), some (aI r12)]) (stk' := [aI v4, aI r12]) (σ' := σ11) (g := []) (by decide +kernel) rfl rfl ?_
        refine aw_icmp_gt (off := 32) (tgt := 99) (by decide +kernel) (by decide) (fun c1 => ?_) (fun c1 => ?_)
        · rw [if_pos c1] at h
          refine aw_forget (L' := [some (aR 12 0 0), some (aI v1), some (aI v2), some (aI v3), some (aI v4), some (aI v5), none]) (lsub_s (lsub_s (lsub_s (lsub_s (lsub_s (lsub_s (lsub_n (lsub_0)))))))) ?_
          exact ok_X12_stone_99 ih v1 v2 v3 v4 v5 σ11 _ h
        · rw [if_neg c1] at h
          refine aw_seq [(.iload 6, 2, ax0), (.iload 4, 2, ax0)] (pc' := 74) (L' := [some (aR 12 0 0), some (aI v1), some (aI v2), some (aI v3), some (aI v4), some (aI v5), some (aI r12)]) (stk' := [aI v4, aI r12]) (σ' := σ11) (g := []) (by decide +kernel) rfl rfl ?_
          refine aw_icmp_ne (off := 18) (tgt := 92) (by decide +kernel) (by decide) (fun c1 => ?_) (fun c1 => ?_)
          · rw [if_neg c1] at h
            refine aw_forget (L' := [some (aR 12 0 0), some (aI v1), some (aI v2), none, none, some (aI v5), some (aI r12)]) (lsub_s (lsub_s (lsub_s (lsub_n (lsub_n (lsub_s (lsub_s (lsub_0)))))))) ?_
            exact ok_X12_stone_92 ih v1 v2 v5 r12 σ11 _ h
          · rw [if_pos c1] at h
            refine aw_seq [(.iload 5, 2, ax0)] (pc' := 79) (L' := [some (aR 12 0 0), some (aI v1), some (aI v2), some (aI v3), some (aI v4), some (aI v5), some (aI r12)]) (stk' := [aI v5]) (σ' := σ11) (g := []) (by decide +kernel) rfl rfl ?_
            obtain ⟨r15, σ14, h13, h⟩ := bnd_some h
            refine aw_cS (P' := pX12_bits) (idx := 300) (d' := 1) [aI v5] [] (ov := (some (aI r15))) (stk2 := [aI r15]) okp_X12_bits (by decide +kernel) ml_RX12_300 tok_X12_bits nar_X12_bits (by decide) rfl (Nat.le_of_ble_eq_true rfl) (ok_X12_bits h13) rfl ?_
            refine aw_seq [(.iload_n 3, 1, ax0)] (pc' := 83) (L' := [some (aR 12 0 0), some (aI v1), some (aI v2), some (aI v3), some (aI v4), some (aI v5), some (aI r12)]) (stk' := [aI v3, aI r15]) (σ' := σ14) (g := []) (by decide +kernel) rfl rfl ?_
            obtain ⟨r18, σ17, h16, h⟩ := bnd_some h
            refine aw_cS (P' := pX12_bits) (idx := 300) (d' := 1) [aI v3] [aI r15] (ov := (some (aI r18))) (stk2 := [aI r18, aI r15]) okp_X12_bits (by decide +kernel) ml_RX12_300 tok_X12_bits nar_X12_bits (by decide) rfl (Nat.le_of_ble_eq_true rfl) (ok_X12_bits h16) rfl ?_
            refine aw_icmp_lt (off := 6) (tgt := 92) (by decide +kernel) (by decide) (fun c1 => ?_) (fun c1 => ?_)
            · rw [if_pos c1] at h
              refine aw_forget (L' := [some (aR 12 0 0), some (aI v1), some (aI v2), none, none, some (aI v5), some (aI r12)]) (lsub_s (lsub_s (lsub_s (lsub_n (lsub_n (lsub_s (lsub_s (lsub_0)))))))) ?_
              exact ok_X12_stone_92 ih v1 v2 v5 r12 σ17 _ h
            · rw [if_neg c1] at h
              refine aw_goto (off := 10) (tgt := 99) (by decide +kernel) (by decide) ?_
              refine aw_forget (L' := [some (aR 12 0 0), some (aI v1), some (aI v2), some (aI v3), some (aI v4), some (aI v5), none]) (lsub_s (lsub_s (lsub_s (lsub_s (lsub_s (lsub_s (lsub_n (lsub_0)))))))) ?_
              exact ok_X12_stone_99 ih v1 v2 v3 v4 v5 σ17 _ h
      · rw [if_neg c1] at h
        refine aw_goto (off := 54) (tgt := 99) (by decide +kernel) (by decide) ?_
        refine aw_forget (L' := [some (aR 12 0 0), some (aI v1), some (aI v2), some (aI v3), some (aI v4), some (aI v5), none]) (lsub_s (lsub_s (lsub_s (lsub_s (lsub_s (lsub_s (lsub_n (lsub_0)))))))) ?_
        exact ok_X12_stone_99 ih v1 v2 v3 v4 v5 σ5 _ h
def f_X12_stone (v1 : Int32) (v2 : Int32) (σ : Sg) : Option (Int32 × Sg) :=
  bnd (f_X12_isIn v1 0 8 σ) fun r21 σ20 =>
  if r21 = 0 then (
    some ((-1), σ20)
  ) else (
    bnd (f_X12_all σ20) fun r24 σ23 =>
    bnd (f_X12_largest r24 σ23) fun r27 σ26 =>
    f_X12_stone_27 FU v1 v2 0 r27 1 σ26
  )
set_option maxRecDepth 100000 in
set_option maxHeartbeats 4000000 in
theorem ok_X12_stone {κ : Kd} {v1 : Int32} {v2 : Int32} {σ : Sg} {q : (Int32 × Sg)} (h : f_X12_stone v1 v2 σ = some q) : AMet κ pX12_stone 5 [aR 12 0 0, aI v1, aI v2] σ (some (aI q.1), q.2) := by
  unfold f_X12_stone at h
  refine amet_of okp_X12_stone [(false, aR 12 0 0), (false, aI v1), (false, aI v2)] (List.forall_mem_cons.mpr ⟨rfl, List.forall_mem_cons.mpr ⟨rfl, List.forall_mem_cons.mpr ⟨rfl, (fun _ hn => absurd hn List.not_mem_nil)⟩⟩⟩) 4 rfl ?_
  show AW κ pX12_stone 5 (some (aI q.1), q.2) 0 [some (aR 12 0 0), some (aI v1), some (aI v2), none, none, none, none] [] σ
  refine aw_seq [(.iload_n 1, 1, ax0), (.iconst 0, 1, (axI 0)), (.bipush 8, 2, (axI 8))] (pc' := 4) (L' := [some (aR 12 0 0), some (aI v1), some (aI v2), none, none, none, none]) (stk' := [aI 8, aI 0, aI v1]) (σ' := σ) (g := []) (by decide +kernel) rfl rfl ?_
  obtain ⟨r21, σ20, h19, h⟩ := bnd_some h
  refine aw_cS (P' := pX12_isIn) (idx := 69) (d' := 1) [aI v1, aI 0, aI 8] [] (ov := (some (aI r21))) (stk2 := [aI r21]) okp_X12_isIn (by decide +kernel) ml_RX12_69 tok_X12_isIn nar_X12_isIn (by decide) rfl (Nat.le_of_ble_eq_true rfl) (ok_X12_isIn h19) rfl ?_
  refine aw_if_ne (off := 5) (tgt := 12) (by decide +kernel) (by decide) (fun c1 => ?_) (fun c1 => ?_)
  · rw [if_neg c1] at h
    refine aw_seq [(.iconst 0, 1, (axI 0)), (.istore_n 3, 1, ax0), (.aload_n 0, 1, ax0), (.aload_n 0, 1, ax0)] (pc' := 16) (L' := [some (aR 12 0 0), some (aI v1), some (aI v2), some (aI 0), none, none, none]) (stk' := [aR 12 0 0, aR 12 0 0]) (σ' := σ20) (g := []) (by decide +kernel) rfl rfl ?_
    obtain ⟨r24, σ23, h22, h⟩ := bnd_some h
    refine aw_cV (P' := pX12_all) (idx := 418) (d' := 1) (c := 12) (n := 0) (k := 0) [] [aR 12 0 0] (ov := (some (aI r24))) (stk2 := [aI r24, aR 12 0 0]) okp_X12_all (by decide +kernel) ml_RX12_418 vok_X12_all (by decide) rfl nar_X12_all (by decide) rfl (Nat.le_of_ble_eq_true rfl) (ok_X12_all h22) rfl ?_
    obtain ⟨r27, σ26, h25, h⟩ := bnd_some h
    refine aw_cV (P' := pX12_largest) (idx := 455) (d' := 4) (c := 12) (n := 0) (k := 0) [aI r24] [] (ov := (some (aI r27))) (stk2 := [aI r27]) okp_X12_largest (by decide +kernel) ml_RX12_455 vok_X12_largest (by decide) rfl nar_X12_largest (by decide) rfl (Nat.le_of_ble_eq_true rfl) (ok_X12_largest h25) rfl ?_
    refine aw_seq [(.istore 4, 2, ax0), (.iconst 1, 1, (axI 1)), (.istore 5, 2, ax0)] (pc' := 27) (L' := [some (aR 12 0 0), some (aI v1), some (aI v2), some (aI 0), some (aI r27), some (aI 1), none]) (stk' := []) (σ' := σ26) (g := []) (by decide +kernel) rfl rfl ?_
    refine aw_forget (L' := [some (aR 12 0 0), some (aI v1), some (aI v2), some (aI 0), some (aI r27), some (aI 1), none]) (lsub_s (lsub_s (lsub_s (lsub_s (lsub_s (lsub_s (lsub_n (lsub_0)))))))) ?_
    exact ok_X12_stone_27 FU v1 v2 0 r27 1 σ26 _ h
  · rw [if_pos c1] at h
    refine aw_seq [(.iconst (-1), 1, (axI (-1)))] (pc' := 11) (L' := [some (aR 12 0 0), some (aI v1), some (aI v2), none, none, none, none]) (stk' := [aI (-1)]) (σ' := σ20) (g := []) (by decide +kernel) rfl rfl ?_
    cases h
    exact aw_iret rfl (by decide +kernel)
def f_X12_seen_43    (σ : Sg) : Option (Int32 × Sg) :=
  some ((-2), σ)
set_option maxRecDepth 100000 in
set_option maxHeartbeats 4000000 in
theorem ok_X12_seen_43 {κ : Kd}    : ∀  (σ : Sg) (q : (Int32 × Sg)), f_X12_seen_43  σ = some q → AW κ pX12_seen 3 (some (aI q.1), q.2) 43 [none, none, none, none, none] [] σ := by
  intro  σ q h
  unfold f_X12_seen_43 at h
  refine aw_seq [(.bipush (-2), 2, (axI (-2)))] (pc' := 45) (L' := [none, none, none, none, none]) (stk' := [aI (-2)]) (σ' := σ) (g := []) (by decide +kernel) rfl rfl ?_
  cases h
  exact aw_iret rfl (by decide +kernel)
def f_X12_seen_95   (s1 : Int32) (s2 : Int32) (σ : Sg) : Option (Int32 × Sg) :=
  grd (inb s1 1986 && true) <|
  ltσ (wI σ 1 (ix s1) s2) fun σ1 =>
  grd (inb 4 1986 && (inb 4 1986 && true)) <|
  ltσ (wI σ1 1 (ix 4) ((σ1.1 1 (ix 4)) + 1)) fun σ3 =>
  grd (inb 4 1986 && true) <|
  some ((σ3.1 1 (ix 4)), σ3)
set_option maxRecDepth 100000 in
set_option maxHeartbeats 4000000 in
theorem ok_X12_seen_95 {κ : Kd}    : ∀ (s1 : Int32) (s2 : Int32) (σ : Sg) (q : (Int32 × Sg)), f_X12_seen_95 s1 s2 σ = some q → AW κ pX12_seen 3 (some (aI q.1), q.2) 95 [some (aR 12 0 0), none, none, none, none] [aI s2, aI s1, aR 13 1986 1] σ := by
  intro s1 s2 σ q h
  unfold f_X12_seen_95 at h
  obtain ⟨hg, h⟩ := grd_some h
  obtain ⟨σ1, e2, h⟩ := ltσ_some h
  refine aw_seq [(.iastore, 1, ax0)] (pc' := 96) (L' := [some (aR 12 0 0), none, none, none, none]) (stk' := []) (σ' := σ1) (g := [inb s1 1986]) (by decide +kernel) (by rw [e2]; rfl) hg ?_
  obtain ⟨hg, h⟩ := grd_some h
  obtain ⟨σ3, e4, h⟩ := ltσ_some h
  refine aw_seq [(.aload_n 0, 1, ax0), (.getfield 7, 3, (axF 12 0 (2, 1, 13, some 1986))), (.iconst 4, 1, (axI 4)), (.dup2, 1, ax0), (.iaload, 1, ax0), (.iconst 1, 1, (axI 1)), (.iadd, 1, ax0), (.iastore, 1, ax0)] (pc' := 106) (L' := [some (aR 12 0 0), none, none, none, none]) (stk' := []) (σ' := σ3) (g := [inb 4 1986, inb 4 1986]) (by decide +kernel) (by rw [e4]; rfl) hg ?_
  obtain ⟨hg, h⟩ := grd_some h
  refine aw_seq [(.aload_n 0, 1, ax0), (.getfield 7, 3, (axF 12 0 (2, 1, 13, some 1986))), (.iconst 4, 1, (axI 4)), (.iaload, 1, ax0)] (pc' := 112) (L' := [some (aR 12 0 0), none, none, none, none]) (stk' := [aI (σ3.1 1 (ix 4))]) (σ' := σ3) (g := [inb 4 1986]) (by decide +kernel) rfl hg ?_
  cases h
  exact aw_iret rfl (by decide +kernel)
def f_X12_seen (v1 : Int32) (v2 : Int32) (v3 : Int32) (σ : Sg) : Option (Int32 × Sg) :=
  if v1 = (-1) then (
    grd (inb 4 1986 && true) <|
    ltσ (wI σ 1 (ix 4) 0) fun σ15 =>
    some (0, σ15)
  ) else (
    bnd (f_X12_isHouse v1 σ) fun r7 σ6 =>
    if r7 = 0 then (
      f_X12_seen_43 σ6
    ) else (
      bnd (f_X12_isIn v2 0 99 σ6) fun r10 σ9 =>
      if r10 = 0 then (
        f_X12_seen_43 σ9
      ) else (
        grd (inb 4 1986 && true) <|
        if (σ9.1 1 (ix 4)) = 8 then (
          f_X12_seen_43 σ9
        ) else (
          grd (inb 4 1986 && (inb (138 + (3 * (σ9.1 1 (ix 4)))) 1986 && true)) <|
          ltσ (wI σ9 1 (ix (138 + (3 * (σ9.1 1 (ix 4))))) v1) fun σ11 =>
          grd (inb ((138 + (3 * (σ9.1 1 (ix 4)))) + 1) 1986 && true) <|
          ltσ (wI σ11 1 (ix ((138 + (3 * (σ9.1 1 (ix 4)))) + 1)) v2) fun σ13 =>
          if v3 = 0 then (
            f_X12_seen_95 ((138 + (3 * (σ9.1 1 (ix 4)))) + 2) 0 σ13
          ) else (
            f_X12_seen_95 ((138 + (3 * (σ9.1 1 (ix 4)))) + 2) 1 σ13
          )
        )
      )
    )
  )
set_option maxRecDepth 100000 in
set_option maxHeartbeats 4000000 in
theorem ok_X12_seen {κ : Kd} {v1 : Int32} {v2 : Int32} {v3 : Int32} {σ : Sg} {q : (Int32 × Sg)} (h : f_X12_seen v1 v2 v3 σ = some q) : AMet κ pX12_seen 3 [aR 12 0 0, aI v1, aI v2, aI v3] σ (some (aI q.1), q.2) := by
  unfold f_X12_seen at h
  refine amet_of okp_X12_seen [(false, aR 12 0 0), (false, aI v1), (false, aI v2), (false, aI v3)] (List.forall_mem_cons.mpr ⟨rfl, List.forall_mem_cons.mpr ⟨rfl, List.forall_mem_cons.mpr ⟨rfl, List.forall_mem_cons.mpr ⟨rfl, (fun _ hn => absurd hn List.not_mem_nil)⟩⟩⟩⟩) 1 rfl ?_
  show AW κ pX12_seen 3 (some (aI q.1), q.2) 0 [some (aR 12 0 0), some (aI v1), some (aI v2), some (aI v3), none] [] σ
  refine aw_seq [(.iload_n 1, 1, ax0), (.iconst (-1), 1, (axI (-1)))] (pc' := 2) (L' := [some (aR 12 0 0), some (aI v1), some (aI v2), some (aI v3), none]) (stk' := [aI (-1), aI v1]) (σ' := σ) (g := []) (by decide +kernel) rfl rfl ?_
  refine aw_icmp_ne (off := 12) (tgt := 14) (by decide +kernel) (by decide) (fun c1 => ?_) (fun c1 => ?_)
  · rw [if_neg c1] at h
    refine aw_seq [(.aload_n 0, 1, ax0), (.iload_n 1, 1, ax0)] (pc' := 16) (L' := [some (aR 12 0 0), some (aI v1), some (aI v2), some (aI v3), none]) (stk' := [aI v1, aR 12 0 0]) (σ' := σ) (g := []) (by decide +kernel) rfl rfl ?_
    obtain ⟨r7, σ6, h5, h⟩ := bnd_some h
    refine aw_cV (P' := pX12_isHouse) (idx := 88) (d' := 2) (c := 12) (n := 0) (k := 0) [aI v1] [] (ov := (some (aI r7))) (stk2 := [aI r7]) okp_X12_isHouse (by decide +kernel) ml_RX12_88 vok_X12_isHouse (by decide) rfl nar_X12_isHouse (by decide) rfl (Nat.le_of_ble_eq_true rfl) (ok_X12_isHouse h5) rfl ?_
    refine aw_if_eq (off := 24) (tgt := 43) (by decide +kernel) (by decide) (fun c1 => ?_) (fun c1 => ?_)
    · rw [if_pos c1] at h
      refine aw_forget (L' := [none, none, none, none, none]) (lsub_n (lsub_n (lsub_n (lsub_n (lsub_n (lsub_0)))))) ?_
      exact ok_X12_seen_43 σ6 _ h
    · rw [if_neg c1] at h
      refine aw_seq [(.iload_n 2, 1, ax0), (.iconst 0, 1, (axI 0)), (.bipush 99, 2, (axI 99))] (pc' := 26) (L' := [some (aR 12 0 0), some (aI v1), some (aI v2), some (aI v3), none]) (stk' := [aI 99, aI 0, aI v2]) (σ' := σ6) (g := []) (by decide +kernel) rfl rfl ?_
      obtain ⟨r10, σ9, h8, h⟩ := bnd_some h
      refine aw_cS (P' := pX12_isIn) (idx := 69) (d' := 1) [aI v2, aI 0, aI 99] [] (ov := (some (aI r10))) (stk2 := [aI r10]) okp_X12_isIn (by decide +kernel) ml_RX12_69 tok_X12_isIn nar_X12_isIn (by decide) rfl (Nat.le_of_ble_eq_true rfl) (ok_X12_isIn h8) rfl ?_
      refine aw_if_eq (off := 14) (tgt := 43) (by decide +kernel) (by decide) (fun c1 => ?_) (fun c1 => ?_)
      · rw [if_pos c1] at h
        refine aw_forget (L' := [none, none, none, none, none]) (lsub_n (lsub_n (lsub_n (lsub_n (lsub_n (lsub_0)))))) ?_
        exact ok_X12_seen_43 σ9 _ h
      · rw [if_neg c1] at h
        obtain ⟨hg, h⟩ := grd_some h
        refine aw_seq [(.aload_n 0, 1, ax0), (.getfield 7, 3, (axF 12 0 (2, 1, 13, some 1986))), (.iconst 4, 1, (axI 4)), (.iaload, 1, ax0), (.bipush 8, 2, (axI 8))] (pc' := 40) (L' := [some (aR 12 0 0), some (aI v1), some (aI v2), some (aI v3), none]) (stk' := [aI 8, aI (σ9.1 1 (ix 4))]) (σ' := σ9) (g := [inb 4 1986]) (by decide +kernel) rfl hg ?_
        refine aw_icmp_ne (off := 6) (tgt := 46) (by decide +kernel) (by decide) (fun c1 => ?_) (fun c1 => ?_)
        · rw [if_neg c1] at h
          obtain ⟨hg, h⟩ := grd_some h
          obtain ⟨σ11, e12, h⟩ := ltσ_some h
          refine aw_seq [(.sipush 138, 3, (axI 138)), (.iconst 3, 1, (axI 3)), (.aload_n 0, 1, ax0), (.getfield 7, 3, (axF 12 0 (2, 1, 13, some 1986))), (.iconst 4, 1, (axI 4)), (.iaload, 1, ax0), (.imul, 1, ax0), (.iadd, 1, ax0), (.istore 4, 2, ax0), (.aload_n 0, 1, ax0), (.getfield 7, 3, (axF 12 0 (2, 1, 13, some 1986))), (.iload 4, 2, ax0), (.iload_n 1, 1, ax0), (.iastore, 1, ax0)] (pc' := 68) (L' := [some (aR 12 0 0), some (aI v1), some (aI v2), some (aI v3), some (aI (138 + (3 * (σ9.1 1 (ix 4)))))]) (stk' := []) (σ' := σ11) (g := [inb 4 1986, inb (138 + (3 * (σ9.1 1 (ix 4)))) 1986]) (by decide +kernel) (by rw [e12]; rfl) hg ?_
          obtain ⟨hg, h⟩ := grd_some h
          obtain ⟨σ13, e14, h⟩ := ltσ_some h
          refine aw_seq [(.aload_n 0, 1, ax0), (.getfield 7, 3, (axF 12 0 (2, 1, 13, some 1986))), (.iload 4, 2, ax0), (.iconst 1, 1, (axI 1)), (.iadd, 1, ax0), (.iload_n 2, 1, ax0), (.iastore, 1, ax0)] (pc' := 78) (L' := [some (aR 12 0 0), some (aI v1), some (aI v2), some (aI v3), some (aI (138 + (3 * (σ9.1 1 (ix 4)))))]) (stk' := []) (σ' := σ13) (g := [inb ((138 + (3 * (σ9.1 1 (ix 4)))) + 1) 1986]) (by decide +kernel) (by rw [e14]; rfl) hg ?_
          refine aw_seq [(.aload_n 0, 1, ax0), (.getfield 7, 3, (axF 12 0 (2, 1, 13, some 1986))), (.iload 4, 2, ax0), (.iconst 2, 1, (axI 2)), (.iadd, 1, ax0), (.iload_n 3, 1, ax0)] (pc' := 87) (L' := [some (aR 12 0 0), some (aI v1), some (aI v2), some (aI v3), some (aI (138 + (3 * (σ9.1 1 (ix 4)))))]) (stk' := [aI v3, aI ((138 + (3 * (σ9.1 1 (ix 4)))) + 2), aR 13 1986 1]) (σ' := σ13) (g := []) (by decide +kernel) rfl rfl ?_
          refine aw_if_eq (off := 7) (tgt := 94) (by decide +kernel) (by decide) (fun c1 => ?_) (fun c1 => ?_)
          · rw [if_pos c1] at h
            refine aw_seq [(.iconst 0, 1, (axI 0))] (pc' := 95) (L' := [some (aR 12 0 0), some (aI v1), some (aI v2), some (aI v3), some (aI (138 + (3 * (σ9.1 1 (ix 4)))))]) (stk' := [aI 0, aI ((138 + (3 * (σ9.1 1 (ix 4)))) + 2), aR 13 1986 1]) (σ' := σ13) (g := []) (by decide +kernel) rfl rfl ?_
            refine aw_forget (L' := [some (aR 12 0 0), none, none, none, none]) (lsub_s (lsub_n (lsub_n (lsub_n (lsub_n (lsub_0)))))) ?_
            exact ok_X12_seen_95 ((138 + (3 * (σ9.1 1 (ix 4)))) + 2) 0 σ13 _ h
          · rw [if_neg c1] at h
            refine aw_seq [(.iconst 1, 1, (axI 1))] (pc' := 91) (L' := [some (aR 12 0 0), some (aI v1), some (aI v2), some (aI v3), some (aI (138 + (3 * (σ9.1 1 (ix 4)))))]) (stk' := [aI 1, aI ((138 + (3 * (σ9.1 1 (ix 4)))) + 2), aR 13 1986 1]) (σ' := σ13) (g := []) (by decide +kernel) rfl rfl ?_
            refine aw_goto (off := 4) (tgt := 95) (by decide +kernel) (by decide) ?_
            refine aw_forget (L' := [some (aR 12 0 0), none, none, none, none]) (lsub_s (lsub_n (lsub_n (lsub_n (lsub_n (lsub_0)))))) ?_
            exact ok_X12_seen_95 ((138 + (3 * (σ9.1 1 (ix 4)))) + 2) 1 σ13 _ h
        · rw [if_pos c1] at h
          refine aw_forget (L' := [none, none, none, none, none]) (lsub_n (lsub_n (lsub_n (lsub_n (lsub_n (lsub_0)))))) ?_
          exact ok_X12_seen_43 σ9 _ h
  · rw [if_pos c1] at h
    obtain ⟨hg, h⟩ := grd_some h
    obtain ⟨σ15, e16, h⟩ := ltσ_some h
    refine aw_seq [(.aload_n 0, 1, ax0), (.getfield 7, 3, (axF 12 0 (2, 1, 13, some 1986))), (.iconst 4, 1, (axI 4)), (.iconst 0, 1, (axI 0)), (.iastore, 1, ax0)] (pc' := 12) (L' := [some (aR 12 0 0), some (aI v1), some (aI v2), some (aI v3), none]) (stk' := []) (σ' := σ15) (g := [inb 4 1986]) (by decide +kernel) (by rw [e16]; rfl) hg ?_
    refine aw_seq [(.iconst 0, 1, (axI 0))] (pc' := 13) (L' := [some (aR 12 0 0), some (aI v1), some (aI v2), some (aI v3), none]) (stk' := [aI 0]) (σ' := σ15) (g := []) (by decide +kernel) rfl rfl ?_
    cases h
    exact aw_iret rfl (by decide +kernel)
