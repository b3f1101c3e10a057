/-! printed by wip/whole/gen4.py from the class file: wordIn, wordAt, cutOne, cut -/
def f_X7_wordIn_3 (j : Nat)  : Nat → Int32 → Int32 → Int32 → Int32 → Sg → Option (Int32 × Sg)
  | 0, _, _, _, _, _ => none
  | fu + 1, v1, v3, v4, v5, σ =>
    bnd (f_J0_length_8abf5 j σ) fun r3 σ2 =>
    grd ((!decide ((8 : Int32) = 0)) && true) <|
    if (r3 / 8) ≤ v5 then (
      some (44, σ2)
    ) else (
      bnd (f_X7_isWord j (v5 * 8) v3 v4 σ2) fun r6 σ5 =>
      if r6 = 0 then (
        (f_X7_wordIn_3 j fu) v1 v3 v4 (v5 + 1) σ5
      ) else (
        some ((v1 + v5), σ5)
      )
    )
set_option maxRecDepth 100000 in
set_option maxHeartbeats 4000000 in
theorem ok_X7_wordIn_3 {κ : Kd} {j : Nat}   : ∀ (fu : Nat) (v1 : Int32) (v3 : Int32) (v4 : Int32) (v5 : Int32) (σ : Sg) (q : (Int32 × Sg)), f_X7_wordIn_3 j fu v1 v3 v4 v5 σ = some q → AW κ pX7_wordIn 7 (some (aI q.1), q.2) 3 [some (aR 20 j (SB + j)), some (aI v1), some (aR 13 300 70), some (aI v3), some (aI v4), some (aI v5)] [] σ := by
  intro fu
  induction fu with
  | zero =>
    intro v1 v3 v4 v5 σ q h
    unfold f_X7_wordIn_3 at h
    cases h
  | succ fu ih =>
    intro v1 v3 v4 v5 σ q h
    unfold f_X7_wordIn_3 at h
    refine aw_seq [(.iload 5, 2, ax0), (.aload_n 0, 1, ax0)] (pc' := 6) (L' := [some (aR 20 j (SB + j)), some (aI v1), some (aR 13 300 70), some (aI v3), some (aI v4), some (aI v5)]) (stk' := [aR 20 j (SB + j), aI v5]) (σ' := σ) (g := []) (by decide +kernel) rfl rfl ?_
    obtain ⟨r3, σ2, h1, h⟩ := bnd_some h
    refine aw_cVS (P' := pJ0_length_8abf5) (idx := 78) (d' := 2) (n := j) (k := (SB + j)) [] [aI v5] (ov := (some (aI r3))) (stk2 := [aI r3, aI v5]) okp_J0_length_8abf5 (by decide +kernel) ml_RX7_78 vok_J0_length_8abf5 rfl nar_J0_length_8abf5 (by decide) rfl (Nat.le_of_ble_eq_true rfl) (ok_J0_length_8abf5 h1) rfl ?_
    obtain ⟨hg, h⟩ := grd_some h
    refine aw_seq [(.bipush 8, 2, (axI 8)), (.idiv, 1, ax0)] (pc' := 12) (L' := [some (aR 20 j (SB + j)), some (aI v1), some (aR 13 300 70), some (aI v3), some (aI v4), some (aI v5)]) (stk' := [aI (r3 / 8), aI v5]) (σ' := σ2) (g := [(!decide ((8 : Int32) = 0))]) (by decide +kernel) rfl hg ?_
    refine aw_icmp_ge (off := 30) (tgt := 42) (by decide +kernel) (by decide) (fun c1 => ?_) (fun c1 => ?_)
    · rw [if_pos c1] at h
      refine aw_seq [(.bipush 44, 2, (axI 44))] (pc' := 44) (L' := [some (aR 20 j (SB + j)), some (aI v1), some (aR 13 300 70), some (aI v3), some (aI v4), some (aI v5)]) (stk' := [aI 44]) (σ' := σ2) (g := []) (by decide +kernel) rfl rfl ?_
      cases h
      exact aw_iret rfl (by decide +kernel)
    · rw [if_neg c1] at h
      refine aw_seq [(.aload_n 0, 1, ax0), (.iload 5, 2, ax0), (.bipush 8, 2, (axI 8)), (.imul, 1, ax0), (.aload_n 2, 1, ax0), (.iload_n 3, 1, ax0), (.iload 4, 2, ax0)] (pc' := 25) (L' := [some (aR 20 j (SB + j)), some (aI v1), some (aR 13 300 70), some (aI v3), some (aI v4), some (aI v5)]) (stk' := [aI v4, aI v3, aR 13 300 70, aI (v5 * 8), aR 20 j (SB + j)]) (σ' := σ2) (g := []) (by decide +kernel) rfl rfl ?_
      obtain ⟨r6, σ5, h4, h⟩ := bnd_some h
      refine aw_cS (P' := pX7_isWord) (idx := 82) (d' := 6) [aR 20 j (SB + j), aI (v5 * 8), aR 13 300 70, aI v3, aI v4] [] (ov := (some (aI r6))) (stk2 := [aI r6]) okp_X7_isWord (by decide +kernel) ml_RX7_82 tok_X7_isWord nar_X7_isWord (by decide) rfl (Nat.le_of_ble_eq_true rfl) (ok_X7_isWord h4) rfl ?_
      refine aw_if_eq (off := 8) (tgt := 36) (by decide +kernel) (by decide) (fun c1 => ?_) (fun c1 => ?_)
      · rw [if_pos c1] at h
        refine aw_seq [(.iinc 5 1, 3, (axI 1))] (pc' := 39) (L' := [some (aR 20 j (SB + j)), some (aI v1), some (aR 13 300 70), some (aI v3), some (aI v4), some (aI (v5 + 1))]) (stk' := []) (σ' := σ5) (g := []) (by decide +kernel) rfl rfl ?_
        refine aw_goto (off := (-36)) (tgt := 3) (by decide +kernel) (by decide) ?_
        refine aw_forget (L' := [some (aR 20 j (SB + j)), some (aI v1), some (aR 13 300 70), some (aI v3), some (aI v4), some (aI (v5 + 1))]) (lsub_s (lsub_s (lsub_s (lsub_s (lsub_s (lsub_s (lsub_0))))))) ?_
        exact ih v1 v3 v4 (v5 + 1) σ5 _ h
      · rw [if_neg c1] at h
        refine aw_seq [(.iload_n 1, 1, ax0), (.iload 5, 2, ax0), (.iadd, 1, ax0)] (pc' := 35) (L' := [some (aR 20 j (SB + j)), some (aI v1), some (aR 13 300 70), some (aI v3), some (aI v4), some (aI v5)]) (stk' := [aI (v1 + v5)]) (σ' := σ5) (g := []) (by decide +kernel) rfl rfl ?_
        cases h
        exact aw_iret rfl (by decide +kernel)
def f_X7_wordIn (j : Nat) (v1 : Int32) (v3 : Int32) (v4 : Int32) (σ : Sg) : Option (Int32 × Sg) :=
  f_X7_wordIn_3 j FU v1 v3 v4 0 σ
set_option maxRecDepth 100000 in
set_option maxHeartbeats 4000000 in
theorem ok_X7_wordIn {κ : Kd} {j : Nat} {v1 : Int32} {v3 : Int32} {v4 : Int32} {σ : Sg} {q : (Int32 × Sg)} (h : f_X7_wordIn j v1 v3 v4 σ = some q) : AMet κ pX7_wordIn 7 [aR 20 j (SB + j), aI v1, aR 13 300 70, aI v3, aI v4] σ (some (aI q.1), q.2) := by
  unfold f_X7_wordIn at h
  refine amet_of okp_X7_wordIn [(false, aR 20 j (SB + j)), (false, aI v1), (false, aR 13 300 70), (false, aI v3), (false, aI v4)] (List.forall_mem_cons.mpr ⟨rfl, List.forall_mem_cons.mpr ⟨rfl, List.forall_mem_cons.mpr ⟨rfl, List.forall_mem_cons.mpr ⟨rfl, List.forall_mem_cons.mpr ⟨rfl, (fun _ hn => absurd hn List.not_mem_nil)⟩⟩⟩⟩⟩) 1 rfl ?_
  show AW κ pX7_wordIn 7 (some (aI q.1), q.2) 0 [some (aR 20 j (SB + j)), some (aI v1), some (aR 13 300 70), some (aI v3), some (aI v4), none] [] σ
  refine aw_seq [(.iconst 0, 1, (axI 0)), (.istore 5, 2, ax0)] (pc' := 3) (L' := [some (aR 20 j (SB + j)), some (aI v1), some (aR 13 300 70), some (aI v3), some (aI v4), some (aI 0)]) (stk' := []) (σ' := σ) (g := []) (by decide +kernel) rfl rfl ?_
  refine aw_forget (L' := [some (aR 20 j (SB + j)), some (aI v1), some (aR 13 300 70), some (aI v3), some (aI v4), some (aI 0)]) (lsub_s (lsub_s (lsub_s (lsub_s (lsub_s (lsub_s (lsub_0))))))) ?_
  exact ok_X7_wordIn_3 FU v1 v3 v4 0 σ _ h
def f_X7_wordAt_93   (s0 : Int32) (σ : Sg) : Option (Int32 × Sg) :=
  some (s0, σ)
set_option maxRecDepth 100000 in
set_option maxHeartbeats 4000000 in
theorem ok_X7_wordAt_93 {κ : Kd}    : ∀ (s0 : Int32) (σ : Sg) (q : (Int32 × Sg)), f_X7_wordAt_93 s0 σ = some q → AW κ pX7_wordAt 8 (some (aI q.1), q.2) 93 [none, none, none, none] [aI s0] σ := by
  intro s0 σ q h
  unfold f_X7_wordAt_93 at h
  cases h
  exact aw_iret rfl (by decide +kernel)
def f_X7_wordAt_72   (v1 : Int32) (v2 : Int32) (s0 : Int32) (σ : Sg) : Option (Int32 × Sg) :=
  if s0 = 44 then (
    bnd (f_X7_wordIn 4 47 v1 v2 σ) fun r3 σ2 =>
    f_X7_wordAt_93 r3 σ2
  ) else (
    f_X7_wordAt_93 s0 σ
  )
set_option maxRecDepth 100000 in
set_option maxHeartbeats 4000000 in
theorem ok_X7_wordAt_72 {κ : Kd}    : ∀ (v1 : Int32) (v2 : Int32) (s0 : Int32) (σ : Sg) (q : (Int32 × Sg)), f_X7_wordAt_72 v1 v2 s0 σ = some q → AW κ pX7_wordAt 8 (some (aI q.1), q.2) 72 [some (aR 13 300 70), some (aI v1), some (aI v2), none] [aI s0] σ := by
  intro v1 v2 s0 σ q h
  unfold f_X7_wordAt_72 at h
  refine aw_seq [(.istore_n 3, 1, ax0), (.iload_n 3, 1, ax0), (.bipush 44, 2, (axI 44))] (pc' := 76) (L' := [some (aR 13 300 70), some (aI v1), some (aI v2), some (aI s0)]) (stk' := [aI 44, aI s0]) (σ' := σ) (g := []) (by decide +kernel) rfl rfl ?_
  refine aw_icmp_ne (off := 16) (tgt := 92) (by decide +kernel) (by decide) (fun c1 => ?_) (fun c1 => ?_)
  · rw [if_neg c1] at h
    refine aw_seq [(.iload_n 3, 1, ax0)] (pc' := 93) (L' := [some (aR 13 300 70), some (aI v1), some (aI v2), some (aI s0)]) (stk' := [aI s0]) (σ' := σ) (g := []) (by decide +kernel) rfl rfl ?_
    refine aw_forget (L' := [none, none, none, none]) (lsub_n (lsub_n (lsub_n (lsub_n (lsub_0))))) ?_
    exact ok_X7_wordAt_93 s0 σ _ h
  · rw [if_pos c1] at h
    refine aw_ldcS 4 (idx := 76) (by decide) rfl rfl (by decide +kernel) ?_
    refine aw_seq [(.bipush 47, 2, (axI 47)), (.aload_n 0, 1, ax0), (.iload_n 1, 1, ax0), (.iload_n 2, 1, ax0)] (pc' := 86) (L' := [some (aR 13 300 70), some (aI v1), some (aI v2), some (aI s0)]) (stk' := [aI v2, aI v1, aR 13 300 70, aI 47, aR 20 4 (SB + 4)]) (σ' := σ) (g := []) (by decide +kernel) rfl rfl ?_
    obtain ⟨r3, σ2, h1, h⟩ := bnd_some h
    refine aw_cS (P' := pX7_wordIn) (idx := 66) (d' := 7) [aR 20 4 (SB + 4), aI 47, aR 13 300 70, aI v1, aI v2] [] (ov := (some (aI r3))) (stk2 := [aI r3]) okp_X7_wordIn (by decide +kernel) ml_RX7_66 tok_X7_wordIn nar_X7_wordIn (by decide) rfl (Nat.le_of_ble_eq_true rfl) (ok_X7_wordIn h1) rfl ?_
    refine aw_goto (off := 4) (tgt := 93) (by decide +kernel) (by decide) ?_
    refine aw_forget (L' := [none, none, none, none]) (lsub_n (lsub_n (lsub_n (lsub_n (lsub_0))))) ?_
    exact ok_X7_wordAt_93 r3 σ2 _ h
def f_X7_wordAt_51   (v1 : Int32) (v2 : Int32) (s0 : Int32) (σ : Sg) : Option (Int32 × Sg) :=
  if s0 = 44 then (
    bnd (f_X7_wordIn 3 24 v1 v2 σ) fun r6 σ5 =>
    f_X7_wordAt_72 v1 v2 r6 σ5
  ) else (
    f_X7_wordAt_72 v1 v2 s0 σ
  )
set_option maxRecDepth 100000 in
set_option maxHeartbeats 4000000 in
theorem ok_X7_wordAt_51 {κ : Kd}    : ∀ (v1 : Int32) (v2 : Int32) (s0 : Int32) (σ : Sg) (q : (Int32 × Sg)), f_X7_wordAt_51 v1 v2 s0 σ = some q → AW κ pX7_wordAt 8 (some (aI q.1), q.2) 51 [some (aR 13 300 70), some (aI v1), some (aI v2), none] [aI s0] σ := by
  intro v1 v2 s0 σ q h
  unfold f_X7_wordAt_51 at h
  refine aw_seq [(.istore_n 3, 1, ax0), (.iload_n 3, 1, ax0), (.bipush 44, 2, (axI 44))] (pc' := 55) (L' := [some (aR 13 300 70), some (aI v1), some (aI v2), some (aI s0)]) (stk' := [aI 44, aI s0]) (σ' := σ) (g := []) (by decide +kernel) rfl rfl ?_
  refine aw_icmp_ne (off := 16) (tgt := 71) (by decide +kernel) (by decide) (fun c1 => ?_) (fun c1 => ?_)
  · rw [if_neg c1] at h
    refine aw_seq [(.iload_n 3, 1, ax0)] (pc' := 72) (L' := [some (aR 13 300 70), some (aI v1), some (aI v2), some (aI s0)]) (stk' := [aI s0]) (σ' := σ) (g := []) (by decide +kernel) rfl rfl ?_
    refine aw_forget (L' := [some (aR 13 300 70), some (aI v1), some (aI v2), none]) (lsub_s (lsub_s (lsub_s (lsub_n (lsub_0))))) ?_
    exact ok_X7_wordAt_72 v1 v2 s0 σ _ h
  · rw [if_pos c1] at h
    refine aw_ldcS 3 (idx := 74) (by decide) rfl rfl (by decide +kernel) ?_
    refine aw_seq [(.bipush 24, 2, (axI 24)), (.aload_n 0, 1, ax0), (.iload_n 1, 1, ax0), (.iload_n 2, 1, ax0)] (pc' := 65) (L' := [some (aR 13 300 70), some (aI v1), some (aI v2), some (aI s0)]) (stk' := [aI v2, aI v1, aR 13 300 70, aI 24, aR 20 3 (SB + 3)]) (σ' := σ) (g := []) (by decide +kernel) rfl rfl ?_
    obtain ⟨r6, σ5, h4, h⟩ := bnd_some h
    refine aw_cS (P' := pX7_wordIn) (idx := 66) (d' := 7) [aR 20 3 (SB + 3), aI 24, aR 13 300 70, aI v1, aI v2] [] (ov := (some (aI r6))) (stk2 := [aI r6]) okp_X7_wordIn (by decide +kernel) ml_RX7_66 tok_X7_wordIn nar_X7_wordIn (by decide) rfl (Nat.le_of_ble_eq_true rfl) (ok_X7_wordIn h4) rfl ?_
    refine aw_goto (off := 4) (tgt := 72) (by decide +kernel) (by decide) ?_
    refine aw_forget (L' := [some (aR 13 300 70), some (aI v1), some (aI v2), none]) (lsub_s (lsub_s (lsub_s (lsub_n (lsub_0))))) ?_
    exact ok_X7_wordAt_72 v1 v2 r6 σ5 _ h
def f_X7_wordAt_30   (v1 : Int32) (v2 : Int32) (s0 : Int32) (σ : Sg) : Option (Int32 × Sg) :=
  if s0 = 44 then (
    bnd (f_X7_wordIn 2 16 v1 v2 σ) fun r9 σ8 =>
    f_X7_wordAt_51 v1 v2 r9 σ8
  ) else (
    f_X7_wordAt_51 v1 v2 s0 σ
  )
set_option maxRecDepth 100000 in
set_option maxHeartbeats 4000000 in
theorem ok_X7_wordAt_30 {κ : Kd}    : ∀ (v1 : Int32) (v2 : Int32) (s0 : Int32) (σ : Sg) (q : (Int32 × Sg)), f_X7_wordAt_30 v1 v2 s0 σ = some q → AW κ pX7_wordAt 8 (some (aI q.1), q.2) 30 [some (aR 13 300 70), some (aI v1), some (aI v2), none] [aI s0] σ := by
  intro v1 v2 s0 σ q h
  unfold f_X7_wordAt_30 at h
  refine aw_seq [(.istore_n 3, 1, ax0), (.iload_n 3, 1, ax0), (.bipush 44, 2, (axI 44))] (pc' := 34) (L' := [some (aR 13 300 70), some (aI v1), some (aI v2), some (aI s0)]) (stk' := [aI 44, aI s0]) (σ' := σ) (g := []) (by decide +kernel) rfl rfl ?_
  refine aw_icmp_ne (off := 16) (tgt := 50) (by decide +kernel) (by decide) (fun c1 => ?_) (fun c1 => ?_)
  · rw [if_neg c1] at h
    refine aw_seq [(.iload_n 3, 1, ax0)] (pc' := 51) (L' := [some (aR 13 300 70), some (aI v1), some (aI v2), some (aI s0)]) (stk' := [aI s0]) (σ' := σ) (g := []) (by decide +kernel) rfl rfl ?_
    refine aw_forget (L' := [some (aR 13 300 70), some (aI v1), some (aI v2), none]) (lsub_s (lsub_s (lsub_s (lsub_n (lsub_0))))) ?_
    exact ok_X7_wordAt_51 v1 v2 s0 σ _ h
  · rw [if_pos c1] at h
    refine aw_ldcS 2 (idx := 72) (by decide) rfl rfl (by decide +kernel) ?_
    refine aw_seq [(.bipush 16, 2, (axI 16)), (.aload_n 0, 1, ax0), (.iload_n 1, 1, ax0), (.iload_n 2, 1, ax0)] (pc' := 44) (L' := [some (aR 13 300 70), some (aI v1), some (aI v2), some (aI s0)]) (stk' := [aI v2, aI v1, aR 13 300 70, aI 16, aR 20 2 (SB + 2)]) (σ' := σ) (g := []) (by decide +kernel) rfl rfl ?_
    obtain ⟨r9, σ8, h7, h⟩ := bnd_some h
    refine aw_cS (P' := pX7_wordIn) (idx := 66) (d' := 7) [aR 20 2 (SB + 2), aI 16, aR 13 300 70, aI v1, aI v2] [] (ov := (some (aI r9))) (stk2 := [aI r9]) okp_X7_wordIn (by decide +kernel) ml_RX7_66 tok_X7_wordIn nar_X7_wordIn (by decide) rfl (Nat.le_of_ble_eq_true rfl) (ok_X7_wordIn h7) rfl ?_
    refine aw_goto (off := 4) (tgt := 51) (by decide +kernel) (by decide) ?_
    refine aw_forget (L' := [some (aR 13 300 70), some (aI v1), some (aI v2), none]) (lsub_s (lsub_s (lsub_s (lsub_n (lsub_0))))) ?_
    exact ok_X7_wordAt_51 v1 v2 r9 σ8 _ h
def f_X7_wordAt (v1 : Int32) (v2 : Int32) (σ : Sg) : Option (Int32 × Sg) :=
  bnd (f_X7_wordIn 0 0 v1 v2 σ) fun r12 σ11 =>
  if r12 = 44 then (
    bnd (f_X7_wordIn 1 8 v1 v2 σ11) fun r15 σ14 =>
    f_X7_wordAt_30 v1 v2 r15 σ14
  ) else (
    f_X7_wordAt_30 v1 v2 r12 σ11
  )
set_option maxRecDepth 100000 in
set_option maxHeartbeats 4000000 in
theorem ok_X7_wordAt {κ : Kd} {v1 : Int32} {v2 : Int32} {σ : Sg} {q : (Int32 × Sg)} (h : f_X7_wordAt v1 v2 σ = some q) : AMet κ pX7_wordAt 8 [aR 13 300 70, aI v1, aI v2] σ (some (aI q.1), q.2) := by
  unfold f_X7_wordAt at h
  refine amet_of okp_X7_wordAt [(false, aR 13 300 70), (false, aI v1), (false, aI v2)] (List.forall_mem_cons.mpr ⟨rfl, List.forall_mem_cons.mpr ⟨rfl, List.forall_mem_cons.mpr ⟨rfl, (fun _ hn => absurd hn List.not_mem_nil)⟩⟩⟩) 1 rfl ?_
  show AW κ pX7_wordAt 8 (some (aI q.1), q.2) 0 [some (aR 13 300 70), some (aI v1), some (aI v2), none] [] σ
  refine aw_ldcS 0 (idx := 64) (by decide) rfl rfl (by decide +kernel) ?_
  refine aw_seq [(.iconst 0, 1, (axI 0)), (.aload_n 0, 1, ax0), (.iload_n 1, 1, ax0), (.iload_n 2, 1, ax0)] (pc' := 6) (L' := [some (aR 13 300 70), some (aI v1), some (aI v2), none]) (stk' := [aI v2, aI v1, aR 13 300 70, aI 0, aR 20 0 (SB + 0)]) (σ' := σ) (g := []) (by decide +kernel) rfl rfl ?_
  obtain ⟨r12, σ11, h10, h⟩ := bnd_some h
  refine aw_cS (P' := pX7_wordIn) (idx := 66) (d' := 7) [aR 20 0 (SB + 0), aI 0, aR 13 300 70, aI v1, aI v2] [] (ov := (some (aI r12))) (stk2 := [aI r12]) okp_X7_wordIn (by decide +kernel) ml_RX7_66 tok_X7_wordIn nar_X7_wordIn (by decide) rfl (Nat.le_of_ble_eq_true rfl) (ok_X7_wordIn h10) rfl ?_
  refine aw_seq [(.istore_n 3, 1, ax0), (.iload_n 3, 1, ax0), (.bipush 44, 2, (axI 44))] (pc' := 13) (L' := [some (aR 13 300 70), some (aI v1), some (aI v2), some (aI r12)]) (stk' := [aI 44, aI r12]) (σ' := σ11) (g := []) (by decide +kernel) rfl rfl ?_
  refine aw_icmp_ne (off := 16) (tgt := 29) (by decide +kernel) (by decide) (fun c1 => ?_) (fun c1 => ?_)
  · rw [if_neg c1] at h
    refine aw_seq [(.iload_n 3, 1, ax0)] (pc' := 30) (L' := [some (aR 13 300 70), some (aI v1), some (aI v2), some (aI r12)]) (stk' := [aI r12]) (σ' := σ11) (g := []) (by decide +kernel) rfl rfl ?_
    refine aw_forget (L' := [some (aR 13 300 70), some (aI v1), some (aI v2), none]) (lsub_s (lsub_s (lsub_s (lsub_n (lsub_0))))) ?_
    exact ok_X7_wordAt_30 v1 v2 r12 σ11 _ h
  · rw [if_pos c1] at h
    refine aw_ldcS 1 (idx := 70) (by decide) rfl rfl (by decide +kernel) ?_
    refine aw_seq [(.bipush 8, 2, (axI 8)), (.aload_n 0, 1, ax0), (.iload_n 1, 1, ax0), (.iload_n 2, 1, ax0)] (pc' := 23) (L' := [some (aR 13 300 70), some (aI v1), some (aI v2), some (aI r12)]) (stk' := [aI v2, aI v1, aR 13 300 70, aI 8, aR 20 1 (SB + 1)]) (σ' := σ11) (g := []) (by decide +kernel) rfl rfl ?_
    obtain ⟨r15, σ14, h13, h⟩ := bnd_some h
    refine aw_cS (P' := pX7_wordIn) (idx := 66) (d' := 7) [aR 20 1 (SB + 1), aI 8, aR 13 300 70, aI v1, aI v2] [] (ov := (some (aI r15))) (stk2 := [aI r15]) okp_X7_wordIn (by decide +kernel) ml_RX7_66 tok_X7_wordIn nar_X7_wordIn (by decide) rfl (Nat.le_of_ble_eq_true rfl) (ok_X7_wordIn h13) rfl ?_
    refine aw_goto (off := 4) (tgt := 30) (by decide +kernel) (by decide) ?_
    refine aw_forget (L' := [some (aR 13 300 70), some (aI v1), some (aI v2), none]) (lsub_s (lsub_s (lsub_s (lsub_n (lsub_0))))) ?_
    exact ok_X7_wordAt_30 v1 v2 r15 σ14 _ h
def f_X7_cutOne_175   (v4 : Int32) (σ : Sg) : Option (Int32 × Sg) :=
  some (v4, σ)
set_option maxRecDepth 100000 in
set_option maxHeartbeats 4000000 in
theorem ok_X7_cutOne_175 {κ : Kd}    : ∀ (v4 : Int32) (σ : Sg) (q : (Int32 × Sg)), f_X7_cutOne_175 v4 σ = some q → AW κ pX7_cutOne 9 (some (aI q.1), q.2) 175 [none, none, none, none, some (aI v4), none] [] σ := by
  intro v4 σ q h
  unfold f_X7_cutOne_175 at h
  refine aw_seq [(.iload 4, 2, ax0)] (pc' := 177) (L' := [none, none, none, none, some (aI v4), none]) (stk' := [aI v4]) (σ' := σ) (g := []) (by decide +kernel) rfl rfl ?_
  cases h
  exact aw_iret rfl (by decide +kernel)
def f_X7_cutOne_36   (v2 : Int32) (v4 : Int32) (σ : Sg) : Option (Int32 × Sg) :=
  bnd (f_X7_wordAt v2 v4 σ) fun r3 σ2 =>
  bndV (f_X7_add r3 0 v2 σ2) fun σ5 =>
  f_X7_cutOne_175 v4 σ5
set_option maxRecDepth 100000 in
set_option maxHeartbeats 4000000 in
theorem ok_X7_cutOne_36 {κ : Kd}    : ∀ (v2 : Int32) (v4 : Int32) (σ : Sg) (q : (Int32 × Sg)), f_X7_cutOne_36 v2 v4 σ = some q → AW κ pX7_cutOne 9 (some (aI q.1), q.2) 36 [some (aR 7 0 50), some (aR 13 300 70), some (aI v2), none, some (aI v4), none] [] σ := by
  intro v2 v4 σ q h
  unfold f_X7_cutOne_36 at h
  refine aw_seq [(.aload_n 0, 1, ax0), (.aload_n 1, 1, ax0), (.iload_n 2, 1, ax0), (.iload 4, 2, ax0)] (pc' := 41) (L' := [some (aR 7 0 50), some (aR 13 300 70), some (aI v2), none, some (aI v4), none]) (stk' := [aI v4, aI v2, aR 13 300 70, aR 7 0 50]) (σ' := σ) (g := []) (by decide +kernel) rfl rfl ?_
  obtain ⟨r3, σ2, h1, h⟩ := bnd_some h
  refine aw_cS (P' := pX7_wordAt) (idx := 43) (d' := 8) [aR 13 300 70, aI v2, aI v4] [aR 7 0 50] (ov := (some (aI r3))) (stk2 := [aI r3, aR 7 0 50]) okp_X7_wordAt (by decide +kernel) ml_RX7_43 tok_X7_wordAt nar_X7_wordAt (by decide) rfl (Nat.le_of_ble_eq_true rfl) (ok_X7_wordAt h1) rfl ?_
  refine aw_seq [(.iconst 0, 1, (axI 0)), (.iload_n 2, 1, ax0)] (pc' := 46) (L' := [some (aR 7 0 50), some (aR 13 300 70), some (aI v2), none, some (aI v4), none]) (stk' := [aI v2, aI 0, aI r3, aR 7 0 50]) (σ' := σ2) (g := []) (by decide +kernel) rfl rfl ?_
  obtain ⟨σ5, h4, h⟩ := bndV_some h
  refine aw_cV (P' := pX7_add) (idx := 35) (d' := 1) (c := 7) (n := 0) (k := 50) [aI r3, aI 0, aI v2] [] (ov := none) (stk2 := []) okp_X7_add (by decide +kernel) ml_RX7_35 vok_X7_add (by decide) rfl nar_X7_add (by decide) rfl (Nat.le_of_ble_eq_true rfl) (ok_X7_add h4) rfl ?_
  refine aw_goto (off := 126) (tgt := 175) (by decide +kernel) (by decide) ?_
  refine aw_forget (L' := [none, none, none, none, some (aI v4), none]) (lsub_n (lsub_n (lsub_n (lsub_n (lsub_s (lsub_n (lsub_0))))))) ?_
  exact ok_X7_cutOne_175 v4 σ5 _ h
def f_X7_cutOne_14   : Nat → Int32 → Int32 → Int32 → Sg → Option (Int32 × Sg)
  | 0, _, _, _, _ => none
  | fu + 1, v2, v3, v4, σ =>
    if v3 ≤ v4 then (
      f_X7_cutOne_36 v2 v4 σ
    ) else (
      grd (inb v4 300 && true) <|
      bnd (f_X7_isLetter (σ.1 70 (ix v4)) σ) fun r8 σ7 =>
      if r8 = 0 then (
        f_X7_cutOne_36 v2 v4 σ7
      ) else (
        (f_X7_cutOne_14 fu) v2 v3 (v4 + 1) σ7
      )
    )
set_option maxRecDepth 100000 in
set_option maxHeartbeats 4000000 in
theorem ok_X7_cutOne_14 {κ : Kd}    : ∀ (fu : Nat) (v2 : Int32) (v3 : Int32) (v4 : Int32) (σ : Sg) (q : (Int32 × Sg)), f_X7_cutOne_14 fu v2 v3 v4 σ = some q → AW κ pX7_cutOne 9 (some (aI q.1), q.2) 14 [some (aR 7 0 50), some (aR 13 300 70), some (aI v2), some (aI v3), some (aI v4), none] [] σ := by
  intro fu
  induction fu with
  | zero =>
    intro v2 v3 v4 σ q h
    unfold f_X7_cutOne_14 at h
    cases h
  | succ fu ih =>
    intro v2 v3 v4 σ q h
    unfold f_X7_cutOne_14 at h
    refine aw_seq [(.iload 4, 2, ax0), (.iload_n 3, 1, ax0)] (pc' := 17) (L' := [some (aR 7 0 50), some (aR 13 300 70), some (aI v2), some (aI v3), some (aI v4), none]) (stk' := [aI v3, aI v4]) (σ' := σ) (g := []) (by decide +kernel) rfl rfl ?_
    refine aw_icmp_ge (off := 19) (tgt := 36) (by decide +kernel) (by decide) (fun c1 => ?_) (fun c1 => ?_)
    · rw [if_pos c1] at h
      refine aw_forget (L' := [some (aR 7 0 50), some (aR 13 300 70), some (aI v2), none, some (aI v4), none]) (lsub_s (lsub_s (lsub_s (lsub_n (lsub_s (lsub_n (lsub_0))))))) ?_
      exact ok_X7_cutOne_36 v2 v4 σ _ h
    · rw [if_neg c1] at h
      obtain ⟨hg, h⟩ := grd_some h
      refine aw_seq [(.aload_n 1, 1, ax0), (.iload 4, 2, ax0), (.iaload, 1, ax0)] (pc' := 24) (L' := [some (aR 7 0 50), some (aR 13 300 70), some (aI v2), some (aI v3), some (aI v4), none]) (stk' := [aI (σ.1 70 (ix v4))]) (σ' := σ) (g := [inb v4 300]) (by decide +kernel) rfl hg ?_
      obtain ⟨r8, σ7, h6, h⟩ := bnd_some h
      refine aw_cS (P' := pX7_isLetter) (idx := 39) (d' := 2) [aI (σ.1 70 (ix v4))] [] (ov := (some (aI r8))) (stk2 := [aI r8]) okp_X7_isLetter (by decide +kernel) ml_RX7_39 tok_X7_isLetter nar_X7_isLetter (by decide) rfl (Nat.le_of_ble_eq_true rfl) (ok_X7_isLetter h6) rfl ?_
      refine aw_if_eq (off := 9) (tgt := 36) (by decide +kernel) (by decide) (fun c1 => ?_) (fun c1 => ?_)
      · rw [if_pos c1] at h
        refine aw_forget (L' := [some (aR 7 0 50), some (aR 13 300 70), some (aI v2), none, some (aI v4), none]) (lsub_s (lsub_s (lsub_s (lsub_n (lsub_s (lsub_n (lsub_0))))))) ?_
        exact ok_X7_cutOne_36 v2 v4 σ7 _ h
      · rw [if_neg c1] at h
        refine aw_seq [(.iinc 4 1, 3, (axI 1))] (pc' := 33) (L' := [some (aR 7 0 50), some (aR 13 300 70), some (aI v2), some (aI v3), some (aI (v4 + 1)), none]) (stk' := []) (σ' := σ7) (g := []) (by decide +kernel) rfl rfl ?_
        refine aw_goto (off := (-19)) (tgt := 14) (by decide +kernel) (by decide) ?_
        refine aw_forget (L' := [some (aR 7 0 50), some (aR 13 300 70), some (aI v2), some (aI v3), some (aI (v4 + 1)), none]) (lsub_s (lsub_s (lsub_s (lsub_s (lsub_s (lsub_n (lsub_0))))))) ?_
        exact ih v2 v3 (v4 + 1) σ7 _ h
def f_X7_cutOne_112   (v2 : Int32) (v4 : Int32) (v5 : Int32) (σ : Sg) : Option (Int32 × Sg) :=
  bndV (f_X7_add 43 v5 v2 σ) fun σ10 =>
  f_X7_cutOne_175 v4 σ10
set_option maxRecDepth 100000 in
set_option maxHeartbeats 4000000 in
theorem ok_X7_cutOne_112 {κ : Kd}    : ∀ (v2 : Int32) (v4 : Int32) (v5 : Int32) (σ : Sg) (q : (Int32 × Sg)), f_X7_cutOne_112 v2 v4 v5 σ = some q → AW κ pX7_cutOne 9 (some (aI q.1), q.2) 112 [some (aR 7 0 50), none, some (aI v2), none, some (aI v4), some (aI v5)] [] σ := by
  intro v2 v4 v5 σ q h
  unfold f_X7_cutOne_112 at h
  refine aw_seq [(.aload_n 0, 1, ax0), (.bipush 43, 2, (axI 43)), (.iload 5, 2, ax0), (.iload_n 2, 1, ax0)] (pc' := 118) (L' := [some (aR 7 0 50), none, some (aI v2), none, some (aI v4), some (aI v5)]) (stk' := [aI v2, aI v5, aI 43, aR 7 0 50]) (σ' := σ) (g := []) (by decide +kernel) rfl rfl ?_
  obtain ⟨σ10, h9, h⟩ := bndV_some h
  refine aw_cV (P' := pX7_add) (idx := 35) (d' := 1) (c := 7) (n := 0) (k := 50) [aI 43, aI v5, aI v2] [] (ov := none) (stk2 := []) okp_X7_add (by decide +kernel) ml_RX7_35 vok_X7_add (by decide) rfl nar_X7_add (by decide) rfl (Nat.le_of_ble_eq_true rfl) (ok_X7_add h9) rfl ?_
  refine aw_goto (off := 54) (tgt := 175) (by decide +kernel) (by decide) ?_
  refine aw_forget (L' := [none, none, none, none, some (aI v4), none]) (lsub_n (lsub_n (lsub_n (lsub_n (lsub_s (lsub_n (lsub_0))))))) ?_
  exact ok_X7_cutOne_175 v4 σ10 _ h
def f_X7_cutOne_69   : Nat → Int32 → Int32 → Int32 → Int32 → Sg → Option (Int32 × Sg)
  | 0, _, _, _, _, _ => none
  | fu + 1, v2, v3, v4, v5, σ =>
    if v3 ≤ v4 then (
      f_X7_cutOne_112 v2 v4 v5 σ
    ) else (
      grd (inb v4 300 && true) <|
      bnd (f_X7_isDigit (σ.1 70 (ix v4)) σ) fun r13 σ12 =>
      if r13 = 0 then (
        f_X7_cutOne_112 v2 v4 v5 σ12
      ) else (
        grd (inb v4 300 && true) <|
        (f_X7_cutOne_69 fu) v2 v3 (v4 + 1) (imin 10000 (((v5 * 10) + (σ12.1 70 (ix v4))) - 48)) σ12
      )
    )
set_option maxRecDepth 100000 in
set_option maxHeartbeats 4000000 in
theorem ok_X7_cutOne_69 {κ : Kd}    : ∀ (fu : Nat) (v2 : Int32) (v3 : Int32) (v4 : Int32) (v5 : Int32) (σ : Sg) (q : (Int32 × Sg)), f_X7_cutOne_69 fu v2 v3 v4 v5 σ = some q → AW κ pX7_cutOne 9 (some (aI q.1), q.2) 69 [some (aR 7 0 50), some (aR 13 300 70), some (aI v2), some (aI v3), some (aI v4), some (aI v5)] [] σ := by
  intro fu
  induction fu with
  | zero =>
    intro v2 v3 v4 v5 σ q h
    unfold f_X7_cutOne_69 at h
    cases h
  | succ fu ih =>
    intro v2 v3 v4 v5 σ q h
    unfold f_X7_cutOne_69 at h
    refine aw_seq [(.iload 4, 2, ax0), (.iload_n 3, 1, ax0)] (pc' := 72) (L' := [some (aR 7 0 50), some (aR 13 300 70), some (aI v2), some (aI v3), some (aI v4), some (aI v5)]) (stk' := [aI v3, aI v4]) (σ' := σ) (g := []) (by decide +kernel) rfl rfl ?_
    refine aw_icmp_ge (off := 40) (tgt := 112) (by decide +kernel) (by decide) (fun c1 => ?_) (fun c1 => ?_)
    · rw [if_pos c1] at h
      refine aw_forget (L' := [some (aR 7 0 50), none, some (aI v2), none, some (aI v4), some (aI v5)]) (lsub_s (lsub_n (lsub_s (lsub_n (lsub_s (lsub_s (lsub_0))))))) ?_
      exact ok_X7_cutOne_112 v2 v4 v5 σ _ h
    · rw [if_neg c1] at h
      obtain ⟨hg, h⟩ := grd_some h
      refine aw_seq [(.aload_n 1, 1, ax0), (.iload 4, 2, ax0), (.iaload, 1, ax0)] (pc' := 79) (L' := [some (aR 7 0 50), some (aR 13 300 70), some (aI v2), some (aI v3), some (aI v4), some (aI v5)]) (stk' := [aI (σ.1 70 (ix v4))]) (σ' := σ) (g := [inb v4 300]) (by decide +kernel) rfl hg ?_
      obtain ⟨r13, σ12, h11, h⟩ := bnd_some h
      refine aw_cS (P' := pX7_isDigit) (idx := 46) (d' := 2) [aI (σ.1 70 (ix v4))] [] (ov := (some (aI r13))) (stk2 := [aI r13]) okp_X7_isDigit (by decide +kernel) ml_RX7_46 tok_X7_isDigit nar_X7_isDigit (by decide) rfl (Nat.le_of_ble_eq_true rfl) (ok_X7_isDigit h11) rfl ?_
      refine aw_if_eq (off := 30) (tgt := 112) (by decide +kernel) (by decide) (fun c1 => ?_) (fun c1 => ?_)
      · rw [if_pos c1] at h
        refine aw_forget (L' := [some (aR 7 0 50), none, some (aI v2), none, some (aI v4), some (aI v5)]) (lsub_s (lsub_n (lsub_s (lsub_n (lsub_s (lsub_s (lsub_0))))))) ?_
        exact ok_X7_cutOne_112 v2 v4 v5 σ12 _ h
      · rw [if_neg c1] at h
        obtain ⟨hg, h⟩ := grd_some h
        refine aw_seq [(.sipush 10000, 3, (axI 10000)), (.iload 5, 2, ax0), (.bipush 10, 2, (axI 10)), (.imul, 1, ax0), (.aload_n 1, 1, ax0), (.iload 4, 2, ax0), (.iaload, 1, ax0), (.iadd, 1, ax0), (.bipush 48, 2, (axI 48)), (.isub, 1, ax0)] (pc' := 101) (L' := [some (aR 7 0 50), some (aR 13 300 70), some (aI v2), some (aI v3), some (aI v4), some (aI v5)]) (stk' := [aI (((v5 * 10) + (σ12.1 70 (ix v4))) - 48), aI 10000]) (σ' := σ12) (g := [inb v4 300]) (by decide +kernel) rfl hg ?_
        refine aw_imin (idx := 25) (by decide) (Nat.le_of_ble_eq_true rfl) jw_imin ml_RX7_25 (by decide +kernel) ?_
        refine aw_seq [(.istore 5, 2, ax0), (.iinc 4 1, 3, (axI 1))] (pc' := 109) (L' := [some (aR 7 0 50), some (aR 13 300 70), some (aI v2), some (aI v3), some (aI (v4 + 1)), some (aI (imin 10000 (((v5 * 10) + (σ12.1 70 (ix v4))) - 48)))]) (stk' := []) (σ' := σ12) (g := []) (by decide +kernel) rfl rfl ?_
        refine aw_goto (off := (-40)) (tgt := 69) (by decide +kernel) (by decide) ?_
        refine aw_forget (L' := [some (aR 7 0 50), some (aR 13 300 70), some (aI v2), some (aI v3), some (aI (v4 + 1)), some (aI (imin 10000 (((v5 * 10) + (σ12.1 70 (ix v4))) - 48)))]) (lsub_s (lsub_s (lsub_s (lsub_s (lsub_s (lsub_s (lsub_0))))))) ?_
        exact ih v2 v3 (v4 + 1) (imin 10000 (((v5 * 10) + (σ12.1 70 (ix v4))) - 48)) σ12 _ h
def f_X7_cutOne_167   (v2 : Int32) (v4 : Int32) (v5 : Int32) (σ : Sg) : Option (Int32 × Sg) :=
  bndV (f_X7_add v5 0 v2 σ) fun σ15 =>
  f_X7_cutOne_175 v4 σ15
set_option maxRecDepth 100000 in
set_option maxHeartbeats 4000000 in
theorem ok_X7_cutOne_167 {κ : Kd}    : ∀ (v2 : Int32) (v4 : Int32) (v5 : Int32) (σ : Sg) (q : (Int32 × Sg)), f_X7_cutOne_167 v2 v4 v5 σ = some q → AW κ pX7_cutOne 9 (some (aI q.1), q.2) 167 [some (aR 7 0 50), none, some (aI v2), none, some (aI v4), some (aI v5)] [] σ := by
  intro v2 v4 v5 σ q h
  unfold f_X7_cutOne_167 at h
  refine aw_seq [(.aload_n 0, 1, ax0), (.iload 5, 2, ax0), (.iconst 0, 1, (axI 0)), (.iload_n 2, 1, ax0)] (pc' := 172) (L' := [some (aR 7 0 50), none, some (aI v2), none, some (aI v4), some (aI v5)]) (stk' := [aI v2, aI 0, aI v5, aR 7 0 50]) (σ' := σ) (g := []) (by decide +kernel) rfl rfl ?_
  obtain ⟨σ15, h14, h⟩ := bndV_some h
  refine aw_cV (P' := pX7_add) (idx := 35) (d' := 1) (c := 7) (n := 0) (k := 50) [aI v5, aI 0, aI v2] [] (ov := none) (stk2 := []) okp_X7_add (by decide +kernel) ml_RX7_35 vok_X7_add (by decide) rfl nar_X7_add (by decide) rfl (Nat.le_of_ble_eq_true rfl) (ok_X7_add h14) rfl ?_
  refine aw_forget (L' := [none, none, none, none, some (aI v4), none]) (lsub_n (lsub_n (lsub_n (lsub_n (lsub_s (lsub_n (lsub_0))))))) ?_
  exact ok_X7_cutOne_175 v4 σ15 _ h
def f_X7_cutOne_146   (v2 : Int32) (v3 : Int32) (v4 : Int32) (v5 : Int32) (σ : Sg) : Option (Int32 × Sg) :=
  if v3 ≤ v4 then (
    f_X7_cutOne_167 v2 v4 v5 σ
  ) else (
    grd (inb v4 300 && true) <|
    if (σ.1 70 (ix v4)) = 61 then (
      f_X7_cutOne_167 v2 (v4 + 1) (v5 + 1) σ
    ) else (
      f_X7_cutOne_167 v2 v4 v5 σ
    )
  )
set_option maxRecDepth 100000 in
set_option maxHeartbeats 4000000 in
theorem ok_X7_cutOne_146 {κ : Kd}    : ∀ (v2 : Int32) (v3 : Int32) (v4 : Int32) (v5 : Int32) (σ : Sg) (q : (Int32 × Sg)), f_X7_cutOne_146 v2 v3 v4 v5 σ = some q → AW κ pX7_cutOne 9 (some (aI q.1), q.2) 146 [some (aR 7 0 50), some (aR 13 300 70), some (aI v2), some (aI v3), some (aI v4), some (aI v5)] [] σ := by
  intro v2 v3 v4 v5 σ q h
  unfold f_X7_cutOne_146 at h
  refine aw_seq [(.iload 4, 2, ax0), (.iload_n 3, 1, ax0)] (pc' := 149) (L' := [some (aR 7 0 50), some (aR 13 300 70), some (aI v2), some (aI v3), some (aI v4), some (aI v5)]) (stk' := [aI v3, aI v4]) (σ' := σ) (g := []) (by decide +kernel) rfl rfl ?_
  refine aw_icmp_ge (off := 18) (tgt := 167) (by decide +kernel) (by decide) (fun c1 => ?_) (fun c1 => ?_)
  · rw [if_pos c1] at h
    refine aw_forget (L' := [some (aR 7 0 50), none, some (aI v2), none, some (aI v4), some (aI v5)]) (lsub_s (lsub_n (lsub_s (lsub_n (lsub_s (lsub_s (lsub_0))))))) ?_
    exact ok_X7_cutOne_167 v2 v4 v5 σ _ h
  · rw [if_neg c1] at h
    obtain ⟨hg, h⟩ := grd_some h
    refine aw_seq [(.aload_n 1, 1, ax0), (.iload 4, 2, ax0), (.iaload, 1, ax0), (.bipush 61, 2, (axI 61))] (pc' := 158) (L' := [some (aR 7 0 50), some (aR 13 300 70), some (aI v2), some (aI v3), some (aI v4), some (aI v5)]) (stk' := [aI 61, aI (σ.1 70 (ix v4))]) (σ' := σ) (g := [inb v4 300]) (by decide +kernel) rfl hg ?_
    refine aw_icmp_ne (off := 9) (tgt := 167) (by decide +kernel) (by decide) (fun c1 => ?_) (fun c1 => ?_)
    · rw [if_neg c1] at h
      refine aw_forget (L' := [some (aR 7 0 50), none, some (aI v2), none, some (aI v4), some (aI v5)]) (lsub_s (lsub_n (lsub_s (lsub_n (lsub_s (lsub_s (lsub_0))))))) ?_
      exact ok_X7_cutOne_167 v2 v4 v5 σ _ h
    · rw [if_pos c1] at h
      refine aw_seq [(.iinc 5 1, 3, (axI 1)), (.iinc 4 1, 3, (axI 1))] (pc' := 167) (L' := [some (aR 7 0 50), some (aR 13 300 70), some (aI v2), some (aI v3), some (aI (v4 + 1)), some (aI (v5 + 1))]) (stk' := []) (σ' := σ) (g := []) (by decide +kernel) rfl rfl ?_
      refine aw_forget (L' := [some (aR 7 0 50), none, some (aI v2), none, some (aI (v4 + 1)), some (aI (v5 + 1))]) (lsub_s (lsub_n (lsub_s (lsub_n (lsub_s (lsub_s (lsub_0))))))) ?_
      exact ok_X7_cutOne_167 v2 (v4 + 1) (v5 + 1) σ _ h
def f_X7_cutOne (v2 : Int32) (v3 : Int32) (σ : Sg) : Option (Int32 × Sg) :=
  grd (inb v2 300 && true) <|
  bnd (f_X7_isLetter (σ.1 70 (ix v2)) σ) fun r18 σ17 =>
  if r18 = 0 then (
    grd (inb v2 300 && true) <|
    bnd (f_X7_isDigit (σ17.1 70 (ix v2)) σ17) fun r21 σ20 =>
    if r21 = 0 then (
      grd (inb v2 300 && true) <|
      bnd (f_X7_signOf (σ20.1 70 (ix v2)) σ20) fun r24 σ23 =>
      if r24 = 30 then (
        f_X7_cutOne_146 v2 v3 (v2 + 1) r24 σ23
      ) else (
        if r24 = 32 then (
          f_X7_cutOne_146 v2 v3 (v2 + 1) r24 σ23
        ) else (
          f_X7_cutOne_167 v2 (v2 + 1) r24 σ23
        )
      )
    ) else (
      grd (inb v2 300 && true) <|
      f_X7_cutOne_69 FU v2 v3 (v2 + 1) ((σ20.1 70 (ix v2)) - 48) σ20
    )
  ) else (
    f_X7_cutOne_14 FU v2 v3 (v2 + 1) σ17
  )
set_option maxRecDepth 100000 in
set_option maxHeartbeats 4000000 in
theorem ok_X7_cutOne {κ : Kd} {v2 : Int32} {v3 : Int32} {σ : Sg} {q : (Int32 × Sg)} (h : f_X7_cutOne v2 v3 σ = some q) : AMet κ pX7_cutOne 9 [aR 7 0 50, aR 13 300 70, aI v2, aI v3] σ (some (aI q.1), q.2) := by
  unfold f_X7_cutOne at h
  refine amet_of okp_X7_cutOne [(false, aR 7 0 50), (false, aR 13 300 70), (false, aI v2), (false, aI v3)] (List.forall_mem_cons.mpr ⟨rfl, List.forall_mem_cons.mpr ⟨rfl, List.forall_mem_cons.mpr ⟨rfl, List.forall_mem_cons.mpr ⟨rfl, (fun _ hn => absurd hn List.not_mem_nil)⟩⟩⟩⟩) 2 rfl ?_
  show AW κ pX7_cutOne 9 (some (aI q.1), q.2) 0 [some (aR 7 0 50), some (aR 13 300 70), some (aI v2), some (aI v3), none, none] [] σ
  obtain ⟨hg, h⟩ := grd_some h
  refine aw_seq [(.iload_n 2, 1, ax0), (.iconst 1, 1, (axI 1)), (.iadd, 1, ax0), (.istore 4, 2, ax0), (.aload_n 1, 1, ax0), (.iload_n 2, 1, ax0), (.iaload, 1, ax0)] (pc' := 8) (L' := [some (aR 7 0 50), some (aR 13 300 70), some (aI v2), some (aI v3), some (aI (v2 + 1)), none]) (stk' := [aI (σ.1 70 (ix v2))]) (σ' := σ) (g := [inb v2 300]) (by decide +kernel) rfl hg ?_
  obtain ⟨r18, σ17, h16, h⟩ := bnd_some h
  refine aw_cS (P' := pX7_isLetter) (idx := 39) (d' := 2) [aI (σ.1 70 (ix v2))] [] (ov := (some (aI r18))) (stk2 := [aI r18]) okp_X7_isLetter (by decide +kernel) ml_RX7_39 tok_X7_isLetter nar_X7_isLetter (by decide) rfl (Nat.le_of_ble_eq_true rfl) (ok_X7_isLetter h16) rfl ?_
  refine aw_if_eq (off := 41) (tgt := 52) (by decide +kernel) (by decide) (fun c1 => ?_) (fun c1 => ?_)
  · rw [if_pos c1] at h
    obtain ⟨hg, h⟩ := grd_some h
    refine aw_seq [(.aload_n 1, 1, ax0), (.iload_n 2, 1, ax0), (.iaload, 1, ax0)] (pc' := 55) (L' := [some (aR 7 0 50), some (aR 13 300 70), some (aI v2), some (aI v3), some (aI (v2 + 1)), none]) (stk' := [aI (σ17.1 70 (ix v2))]) (σ' := σ17) (g := [inb v2 300]) (by decide +kernel) rfl hg ?_
    obtain ⟨r21, σ20, h19, h⟩ := bnd_some h
    refine aw_cS (P' := pX7_isDigit) (idx := 46) (d' := 2) [aI (σ17.1 70 (ix v2))] [] (ov := (some (aI r21))) (stk2 := [aI r21]) okp_X7_isDigit (by decide +kernel) ml_RX7_46 tok_X7_isDigit nar_X7_isDigit (by decide) rfl (Nat.le_of_ble_eq_true rfl) (ok_X7_isDigit h19) rfl ?_
    refine aw_if_eq (off := 66) (tgt := 124) (by decide +kernel) (by decide) (fun c1 => ?_) (fun c1 => ?_)
    · rw [if_pos c1] at h
      obtain ⟨hg, h⟩ := grd_some h
      refine aw_seq [(.aload_n 1, 1, ax0), (.iload_n 2, 1, ax0), (.iaload, 1, ax0)] (pc' := 127) (L' := [some (aR 7 0 50), some (aR 13 300 70), some (aI v2), some (aI v3), some (aI (v2 + 1)), none]) (stk' := [aI (σ20.1 70 (ix v2))]) (σ' := σ20) (g := [inb v2 300]) (by decide +kernel) rfl hg ?_
      obtain ⟨r24, σ23, h22, h⟩ := bnd_some h
      refine aw_cS (P' := pX7_signOf) (idx := 49) (d' := 5) [aI (σ20.1 70 (ix v2))] [] (ov := (some (aI r24))) (stk2 := [aI r24]) okp_X7_signOf (by decide +kernel) ml_RX7_49 tok_X7_signOf nar_X7_signOf (by decide) rfl (Nat.le_of_ble_eq_true rfl) (ok_X7_signOf h22) rfl ?_
      refine aw_seq [(.istore 5, 2, ax0), (.iload 5, 2, ax0), (.bipush 30, 2, (axI 30))] (pc' := 136) (L' := [some (aR 7 0 50), some (aR 13 300 70), some (aI v2), some (aI v3), some (aI (v2 + 1)), some (aI r24)]) (stk' := [aI 30, aI r24]) (σ' := σ23) (g := []) (by decide +kernel) rfl rfl ?_
      refine aw_icmp_eq (off := 10) (tgt := 146) (by decide +kernel) (by decide) (fun c1 => ?_) (fun c1 => ?_)
      · rw [if_pos c1] at h
        refine aw_forget (L' := [some (aR 7 0 50), some (aR 13 300 70), some (aI v2), some (aI v3), some (aI (v2 + 1)), some (aI r24)]) (lsub_s (lsub_s (lsub_s (lsub_s (lsub_s (lsub_s (lsub_0))))))) ?_
        exact ok_X7_cutOne_146 v2 v3 (v2 + 1) r24 σ23 _ h
      · rw [if_neg c1] at h
        refine aw_seq [(.iload 5, 2, ax0), (.bipush 32, 2, (axI 32))] (pc' := 143) (L' := [some (aR 7 0 50), some (aR 13 300 70), some (aI v2), some (aI v3), some (aI (v2 + 1)), some (aI r24)]) (stk' := [aI 32, aI r24]) (σ' := σ23) (g := []) (by decide +kernel) rfl rfl ?_
        refine aw_icmp_ne (off := 24) (tgt := 167) (by decide +kernel) (by decide) (fun c1 => ?_) (fun c1 => ?_)
        · rw [if_neg c1] at h
          refine aw_forget (L' := [some (aR 7 0 50), none, some (aI v2), none, some (aI (v2 + 1)), some (aI r24)]) (lsub_s (lsub_n (lsub_s (lsub_n (lsub_s (lsub_s (lsub_0))))))) ?_
          exact ok_X7_cutOne_167 v2 (v2 + 1) r24 σ23 _ h
        · rw [if_pos c1] at h
          refine aw_forget (L' := [some (aR 7 0 50), some (aR 13 300 70), some (aI v2), some (aI v3), some (aI (v2 + 1)), some (aI r24)]) (lsub_s (lsub_s (lsub_s (lsub_s (lsub_s (lsub_s (lsub_0))))))) ?_
          exact ok_X7_cutOne_146 v2 v3 (v2 + 1) r24 σ23 _ h
    · rw [if_neg c1] at h
      obtain ⟨hg, h⟩ := grd_some h
      refine aw_seq [(.aload_n 1, 1, ax0), (.iload_n 2, 1, ax0), (.iaload, 1, ax0), (.bipush 48, 2, (axI 48)), (.isub, 1, ax0), (.istore 5, 2, ax0)] (pc' := 69) (L' := [some (aR 7 0 50), some (aR 13 300 70), some (aI v2), some (aI v3), some (aI (v2 + 1)), some (aI ((σ20.1 70 (ix v2)) - 48))]) (stk' := []) (σ' := σ20) (g := [inb v2 300]) (by decide +kernel) rfl hg ?_
      refine aw_forget (L' := [some (aR 7 0 50), some (aR 13 300 70), some (aI v2), some (aI v3), some (aI (v2 + 1)), some (aI ((σ20.1 70 (ix v2)) - 48))]) (lsub_s (lsub_s (lsub_s (lsub_s (lsub_s (lsub_s (lsub_0))))))) ?_
      exact ok_X7_cutOne_69 FU v2 v3 (v2 + 1) ((σ20.1 70 (ix v2)) - 48) σ20 _ h
  · rw [if_neg c1] at h
    refine aw_forget (L' := [some (aR 7 0 50), some (aR 13 300 70), some (aI v2), some (aI v3), some (aI (v2 + 1)), none]) (lsub_s (lsub_s (lsub_s (lsub_s (lsub_s (lsub_n (lsub_0))))))) ?_
    exact ok_X7_cutOne_14 FU v2 v3 (v2 + 1) σ17 _ h
def f_X7_cut_66  (rec_12 : Int32 → Int32 → Int32 → Sg → Option Sg) (v2 : Int32) (v3 : Int32) (v4 : Int32) (σ : Sg) : Option Sg :=
  rec_12 v2 v3 (v4 + (-1)) σ
set_option maxRecDepth 100000 in
set_option maxHeartbeats 4000000 in
theorem ok_X7_cut_66 {κ : Kd}   {rec_12 : Int32 → Int32 → Int32 → Sg → Option Sg} (hrec_12 : ∀ (v2 : Int32) (v3 : Int32) (v4 : Int32) (σ : Sg) (q : Sg), rec_12 v2 v3 v4 σ = some q → AW κ pX7_cut 10 (none, q) 12 [some (aR 7 0 50), some (aR 13 300 70), some (aI v2), some (aI v3), some (aI v4), none] [] σ) : ∀ (v2 : Int32) (v3 : Int32) (v4 : Int32) (σ : Sg) (q : Sg), f_X7_cut_66 rec_12 v2 v3 v4 σ = some q → AW κ pX7_cut 10 (none, q) 66 [some (aR 7 0 50), some (aR 13 300 70), some (aI v2), some (aI v3), some (aI v4), none] [] σ := by
  intro v2 v3 v4 σ q h
  unfold f_X7_cut_66 at h
  refine aw_seq [(.iinc 4 (-1), 3, (axI (-1)))] (pc' := 69) (L' := [some (aR 7 0 50), some (aR 13 300 70), some (aI v2), some (aI v3), some (aI (v4 + (-1))), none]) (stk' := []) (σ' := σ) (g := []) (by decide +kernel) rfl rfl ?_
  refine aw_goto (off := (-57)) (tgt := 12) (by decide +kernel) (by decide) ?_
  refine aw_forget (L' := [some (aR 7 0 50), some (aR 13 300 70), some (aI v2), some (aI v3), some (aI (v4 + (-1))), none]) (lsub_s (lsub_s (lsub_s (lsub_s (lsub_s (lsub_n (lsub_0))))))) ?_
  exact hrec_12 v2 v3 (v4 + (-1)) σ _ h
def f_X7_cut_47  (rec_12 : Int32 → Int32 → Int32 → Sg → Option Sg) (v2 : Int32) (v3 : Int32) (v4 : Int32) (σ : Sg) : Option Sg :=
  f_X7_cut_66 rec_12 v2 (v3 + 1) v4 σ
set_option maxRecDepth 100000 in
set_option maxHeartbeats 4000000 in
theorem ok_X7_cut_47 {κ : Kd}   {rec_12 : Int32 → Int32 → Int32 → Sg → Option Sg} (hrec_12 : ∀ (v2 : Int32) (v3 : Int32) (v4 : Int32) (σ : Sg) (q : Sg), rec_12 v2 v3 v4 σ = some q → AW κ pX7_cut 10 (none, q) 12 [some (aR 7 0 50), some (aR 13 300 70), some (aI v2), some (aI v3), some (aI v4), none] [] σ) : ∀ (v2 : Int32) (v3 : Int32) (v4 : Int32) (σ : Sg) (q : Sg), f_X7_cut_47 rec_12 v2 v3 v4 σ = some q → AW κ pX7_cut 10 (none, q) 47 [some (aR 7 0 50), some (aR 13 300 70), some (aI v2), some (aI v3), some (aI v4), none] [] σ := by
  intro v2 v3 v4 σ q h
  unfold f_X7_cut_47 at h
  refine aw_seq [(.iinc 3 1, 3, (axI 1))] (pc' := 50) (L' := [some (aR 7 0 50), some (aR 13 300 70), some (aI v2), some (aI (v3 + 1)), some (aI v4), none]) (stk' := []) (σ' := σ) (g := []) (by decide +kernel) rfl rfl ?_
  refine aw_goto (off := 16) (tgt := 66) (by decide +kernel) (by decide) ?_
  refine aw_forget (L' := [some (aR 7 0 50), some (aR 13 300 70), some (aI v2), some (aI (v3 + 1)), some (aI v4), none]) (lsub_s (lsub_s (lsub_s (lsub_s (lsub_s (lsub_n (lsub_0))))))) ?_
  exact ok_X7_cut_66 hrec_12 v2 (v3 + 1) v4 σ _ h
def f_X7_cut_72   (v2 : Int32) (σ : Sg) : Option Sg :=
  bndV (f_X7_add 45 0 v2 σ) fun σ2 =>
  some σ2
set_option maxRecDepth 100000 in
set_option maxHeartbeats 4000000 in
theorem ok_X7_cut_72 {κ : Kd}    : ∀ (v2 : Int32) (σ : Sg) (q : Sg), f_X7_cut_72 v2 σ = some q → AW κ pX7_cut 10 (none, q) 72 [some (aR 7 0 50), none, some (aI v2), none, none, none] [] σ := by
  intro v2 σ q h
  unfold f_X7_cut_72 at h
  refine aw_seq [(.aload_n 0, 1, ax0), (.bipush 45, 2, (axI 45)), (.iconst 0, 1, (axI 0)), (.iload_n 2, 1, ax0)] (pc' := 77) (L' := [some (aR 7 0 50), none, some (aI v2), none, none, none]) (stk' := [aI v2, aI 0, aI 45, aR 7 0 50]) (σ' := σ) (g := []) (by decide +kernel) rfl rfl ?_
  obtain ⟨σ2, h1, h⟩ := bndV_some h
  refine aw_cV (P' := pX7_add) (idx := 35) (d' := 1) (c := 7) (n := 0) (k := 50) [aI 45, aI 0, aI v2] [] (ov := none) (stk2 := []) okp_X7_add (by decide +kernel) ml_RX7_35 vok_X7_add (by decide) rfl nar_X7_add (by decide) rfl (Nat.le_of_ble_eq_true rfl) (ok_X7_add h1) rfl ?_
  cases h
  exact aw_vret rfl (by decide +kernel)
def f_X7_cut_12   : Nat → Int32 → Int32 → Int32 → Sg → Option Sg
  | 0, _, _, _, _ => none
  | fu + 1, v2, v3, v4, σ =>
    if v4 ≤ 0 then (
      f_X7_cut_72 v2 σ
    ) else (
      if v2 ≤ v3 then (
        f_X7_cut_72 v2 σ
      ) else (
        if 300 ≤ v3 then (
          f_X7_cut_72 v2 σ
        ) else (
          grd (inb v3 300 && true) <|
          if (σ.1 70 (ix v3)) = 32 then (
            f_X7_cut_47 (f_X7_cut_12 fu) v2 v3 v4 σ
          ) else (
            if (σ.1 70 (ix v3)) = 10 then (
              f_X7_cut_47 (f_X7_cut_12 fu) v2 v3 v4 σ
            ) else (
              bnd (f_X7_cutOne v3 (imin v2 300) σ) fun r5 σ4 =>
              f_X7_cut_66 (f_X7_cut_12 fu) v2 r5 v4 σ4
            )
          )
        )
      )
    )
set_option maxRecDepth 100000 in
set_option maxHeartbeats 4000000 in
theorem ok_X7_cut_12 {κ : Kd}    : ∀ (fu : Nat) (v2 : Int32) (v3 : Int32) (v4 : Int32) (σ : Sg) (q : Sg), f_X7_cut_12 fu v2 v3 v4 σ = some q → AW κ pX7_cut 10 (none, q) 12 [some (aR 7 0 50), some (aR 13 300 70), some (aI v2), some (aI v3), some (aI v4), none] [] σ := by
  intro fu
  induction fu with
  | zero =>
    intro v2 v3 v4 σ q h
    unfold f_X7_cut_12 at h
    cases h
  | succ fu ih =>
    intro v2 v3 v4 σ q h
    unfold f_X7_cut_12 at h
    refine aw_seq [(.iload 4, 2, ax0)] (pc' := 14) (L' := [some (aR 7 0 50), some (aR 13 300 70), some (aI v2), some (aI v3), some (aI v4), none]) (stk' := [aI v4]) (σ' := σ) (g := []) (by decide +kernel) rfl rfl ?_
    refine aw_if_le (off := 58) (tgt := 72) (by decide +kernel) (by decide) (fun c1 => ?_) (fun c1 => ?_)
    · rw [if_pos c1] at h
      refine aw_forget (L' := [some (aR 7 0 50), none, some (aI v2), none, none, none]) (lsub_s (lsub_n (lsub_s (lsub_n (lsub_n (lsub_n (lsub_0))))))) ?_
      exact ok_X7_cut_72 v2 σ _ h
    · rw [if_neg c1] at h
      refine aw_seq [(.iload_n 3, 1, ax0), (.iload_n 2, 1, ax0)] (pc' := 19) (L' := [some (aR 7 0 50), some (aR 13 300 70), some (aI v2), some (aI v3), some (aI v4), none]) (stk' := [aI v2, aI v3]) (σ' := σ) (g := []) (by decide +kernel) rfl rfl ?_
      refine aw_icmp_ge (off := 53) (tgt := 72) (by decide +kernel) (by decide) (fun c1 => ?_) (fun c1 => ?_)
      · rw [if_pos c1] at h
        refine aw_forget (L' := [some (aR 7 0 50), none, some (aI v2), none, none, none]) (lsub_s (lsub_n (lsub_s (lsub_n (lsub_n (lsub_n (lsub_0))))))) ?_
        exact ok_X7_cut_72 v2 σ _ h
      · rw [if_neg c1] at h
        refine aw_seq [(.iload_n 3, 1, ax0), (.aload_n 1, 1, ax0), (.arraylength, 1, ax0)] (pc' := 25) (L' := [some (aR 7 0 50), some (aR 13 300 70), some (aI v2), some (aI v3), some (aI v4), none]) (stk' := [aI 300, aI v3]) (σ' := σ) (g := []) (by decide +kernel) rfl rfl ?_
        refine aw_icmp_ge (off := 47) (tgt := 72) (by decide +kernel) (by decide) (fun c1 => ?_) (fun c1 => ?_)
        · rw [if_pos c1] at h
          refine aw_forget (L' := [some (aR 7 0 50), none, some (aI v2), none, none, none]) (lsub_s (lsub_n (lsub_s (lsub_n (lsub_n (lsub_n (lsub_0))))))) ?_
          exact ok_X7_cut_72 v2 σ _ h
        · rw [if_neg c1] at h
          obtain ⟨hg, h⟩ := grd_some h
          refine aw_seq [(.aload_n 1, 1, ax0), (.iload_n 3, 1, ax0), (.iaload, 1, ax0), (.istore 5, 2, ax0), (.iload 5, 2, ax0), (.bipush 32, 2, (axI 32))] (pc' := 37) (L' := [some (aR 7 0 50), some (aR 13 300 70), some (aI v2), some (aI v3), some (aI v4), some (aI (σ.1 70 (ix v3)))]) (stk' := [aI 32, aI (σ.1 70 (ix v3))]) (σ' := σ) (g := [inb v3 300]) (by decide +kernel) rfl hg ?_
          refine aw_icmp_eq (off := 10) (tgt := 47) (by decide +kernel) (by decide) (fun c1 => ?_) (fun c1 => ?_)
          · rw [if_pos c1] at h
            refine aw_forget (L' := [some (aR 7 0 50), some (aR 13 300 70), some (aI v2), some (aI v3), some (aI v4), none]) (lsub_s (lsub_s (lsub_s (lsub_s (lsub_s (lsub_n (lsub_0))))))) ?_
            exact ok_X7_cut_47 ih v2 v3 v4 σ _ h
          · rw [if_neg c1] at h
            refine aw_seq [(.iload 5, 2, ax0), (.bipush 10, 2, (axI 10))] (pc' := 44) (L' := [some (aR 7 0 50), some (aR 13 300 70), some (aI v2), some (aI v3), some (aI v4), some (aI (σ.1 70 (ix v3)))]) (stk' := [aI 10, aI (σ.1 70 (ix v3))]) (σ' := σ) (g := []) (by decide +kernel) rfl rfl ?_
            refine aw_icmp_ne (off := 9) (tgt := 53) (by decide +kernel) (by decide) (fun c1 => ?_) (fun c1 => ?_)
            · rw [if_neg c1] at h
              refine aw_seq [(.aload_n 0, 1, ax0), (.aload_n 1, 1, ax0), (.iload_n 3, 1, ax0), (.iload_n 2, 1, ax0), (.aload_n 1, 1, ax0), (.arraylength, 1, ax0)] (pc' := 59) (L' := [some (aR 7 0 50), some (aR 13 300 70), some (aI v2), some (aI v3), some (aI v4), some (aI (σ.1 70 (ix v3)))]) (stk' := [aI 300, aI v2, aI v3, aR 13 300 70, aR 7 0 50]) (σ' := σ) (g := []) (by decide +kernel) rfl rfl ?_
              refine aw_imin (idx := 25) (by decide) (Nat.le_of_ble_eq_true rfl) jw_imin ml_RX7_25 (by decide +kernel) ?_
              obtain ⟨r5, σ4, h3, h⟩ := bnd_some h
              refine aw_cV (P' := pX7_cutOne) (idx := 31) (d' := 9) (c := 7) (n := 0) (k := 50) [aR 13 300 70, aI v3, aI (imin v2 300)] [] (ov := (some (aI r5))) (stk2 := [aI r5]) okp_X7_cutOne (by decide +kernel) ml_RX7_31 vok_X7_cutOne (by decide) rfl nar_X7_cutOne (by decide) rfl (Nat.le_of_ble_eq_true rfl) (ok_X7_cutOne h3) rfl ?_
              refine aw_seq [(.istore_n 3, 1, ax0)] (pc' := 66) (L' := [some (aR 7 0 50), some (aR 13 300 70), some (aI v2), some (aI r5), some (aI v4), some (aI (σ.1 70 (ix v3)))]) (stk' := []) (σ' := σ4) (g := []) (by decide +kernel) rfl rfl ?_
              refine aw_forget (L' := [some (aR 7 0 50), some (aR 13 300 70), some (aI v2), some (aI r5), some (aI v4), none]) (lsub_s (lsub_s (lsub_s (lsub_s (lsub_s (lsub_n (lsub_0))))))) ?_
              exact ok_X7_cut_66 ih v2 r5 v4 σ4 _ h
            · rw [if_pos c1] at h
              refine aw_forget (L' := [some (aR 7 0 50), some (aR 13 300 70), some (aI v2), some (aI v3), some (aI v4), none]) (lsub_s (lsub_s (lsub_s (lsub_s (lsub_s (lsub_n (lsub_0))))))) ?_
              exact ok_X7_cut_47 ih v2 v3 v4 σ _ h
def f_X7_cut (v2 : Int32) (σ : Sg) : Option Sg :=
  ltσ (wI σ 50 3 0) fun σ6 =>
  f_X7_cut_12 FU v2 0 300 σ6
set_option maxRecDepth 100000 in
set_option maxHeartbeats 4000000 in
theorem ok_X7_cut {κ : Kd} {v2 : Int32} {σ : Sg} {q : Sg} (h : f_X7_cut v2 σ = some q) : AMet κ pX7_cut 10 [aR 7 0 50, aR 13 300 70, aI v2] σ (none, q) := by
  unfold f_X7_cut at h
  refine amet_of okp_X7_cut [(false, aR 7 0 50), (false, aR 13 300 70), (false, aI v2)] (List.forall_mem_cons.mpr ⟨rfl, List.forall_mem_cons.mpr ⟨rfl, List.forall_mem_cons.mpr ⟨rfl, (fun _ hn => absurd hn List.not_mem_nil)⟩⟩⟩) 3 rfl ?_
  show AW κ pX7_cut 10 (none, q) 0 [some (aR 7 0 50), some (aR 13 300 70), some (aI v2), none, none, none] [] σ
  obtain ⟨σ6, e7, h⟩ := ltσ_some h
  refine aw_seq [(.aload_n 0, 1, ax0), (.iconst 0, 1, (axI 0)), (.putfield 21, 3, (axF 7 3 (0, 0, 0, none)))] (pc' := 5) (L' := [some (aR 7 0 50), some (aR 13 300 70), some (aI v2), none, none, none]) (stk' := []) (σ' := σ6) (g := []) (by decide +kernel) (by rw [e7]; rfl) rfl ?_
  refine aw_seq [(.iconst 0, 1, (axI 0)), (.istore_n 3, 1, ax0), (.sipush 300, 3, (axI 300)), (.istore 4, 2, ax0)] (pc' := 12) (L' := [some (aR 7 0 50), some (aR 13 300 70), some (aI v2), some (aI 0), some (aI 300), none]) (stk' := []) (σ' := σ6) (g := []) (by decide +kernel) rfl rfl ?_
  refine aw_forget (L' := [some (aR 7 0 50), some (aR 13 300 70), some (aI v2), some (aI 0), some (aI 300), none]) (lsub_s (lsub_s (lsub_s (lsub_s (lsub_s (lsub_n (lsub_0))))))) ?_
  exact ok_X7_cut_12 FU v2 0 300 σ6 _ h
