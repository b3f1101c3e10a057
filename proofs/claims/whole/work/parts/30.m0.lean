/-! printed by wip/whole/gen4.py from the class file: copy, isIn, cut, has, bits, isHouse, get, put, lengthOf, beside, allOf, isBell, begin, house, street, four, feed, end, byteAt, isLetterByte, isFigure, isSign, nextToken, w2, w3, w4, w5, w6, isWord, emit -/
def f_X12_copy_2 (qa : Nat) (qb : Nat)  : Nat → Int32 → Sg → Option Sg
  | 0, _, _ => none
  | fu + 1, v2, σ =>
    if 1986 ≤ v2 then (
      some σ
    ) else (
      grd (inb v2 1986 && (inb v2 1986 && true)) <|
      ltσ (wI σ qb (ix v2) (σ.1 qa (ix v2))) fun σ1 =>
      (f_X12_copy_2 qa qb fu) (v2 + 1) σ1
    )
set_option maxRecDepth 100000 in
set_option maxHeartbeats 4000000 in
theorem ok_X12_copy_2 {κ : Kd} {qa : Nat} {qb : Nat}   : ∀ (fu : Nat) (v2 : Int32) (σ : Sg) (q : Sg), f_X12_copy_2 qa qb fu v2 σ = some q → AW κ pX12_copy 1 (none, q) 2 [some (aR 13 1986 qa), some (aR 13 1986 qb), some (aI v2)] [] σ := by
  intro fu
  induction fu with
  | zero =>
    intro v2 σ q h
    unfold f_X12_copy_2 at h
    cases h
  | succ fu ih =>
    intro v2 σ q h
    unfold f_X12_copy_2 at h
    refine aw_seq [(.iload_n 2, 1, ax0), (.sipush 1986, 3, (axI 1986))] (pc' := 6) (L' := [some (aR 13 1986 qa), some (aR 13 1986 qb), some (aI v2)]) (stk' := [aI 1986, aI v2]) (σ' := σ) (g := []) (by decide +kernel) rfl rfl ?_
    refine aw_icmp_ge (off := 15) (tgt := 21) (by decide +kernel) (by decide) (fun c1 => ?_) (fun c1 => ?_)
    · rw [if_pos c1] at h
      cases h
      exact aw_vret rfl (by decide +kernel)
    · rw [if_neg c1] at h
      obtain ⟨hg, h⟩ := grd_some h
      obtain ⟨σ1, e2, h⟩ := ltσ_some h
      refine aw_seq [(.aload_n 1, 1, ax0), (.iload_n 2, 1, ax0), (.aload_n 0, 1, ax0), (.iload_n 2, 1, ax0), (.iaload, 1, ax0), (.iastore, 1, ax0)] (pc' := 15) (L' := [some (aR 13 1986 qa), some (aR 13 1986 qb), some (aI v2)]) (stk' := []) (σ' := σ1) (g := [inb v2 1986, inb v2 1986]) (by decide +kernel) (by rw [e2]; rfl) hg ?_
      refine aw_seq [(.iinc 2 1, 3, (axI 1))] (pc' := 18) (L' := [some (aR 13 1986 qa), some (aR 13 1986 qb), some (aI (v2 + 1))]) (stk' := []) (σ' := σ1) (g := []) (by decide +kernel) rfl rfl ?_
      refine aw_goto (off := (-16)) (tgt := 2) (by decide +kernel) (by decide) ?_
      refine aw_forget (L' := [some (aR 13 1986 qa), some (aR 13 1986 qb), some (aI (v2 + 1))]) (lsub_s (lsub_s (lsub_s (lsub_0)))) ?_
      exact ih (v2 + 1) σ1 _ h
def f_X12_copy (qa : Nat) (qb : Nat) (σ : Sg) : Option Sg :=
  f_X12_copy_2 qa qb FU 0 σ
set_option maxRecDepth 100000 in
set_option maxHeartbeats 4000000 in
theorem ok_X12_copy {κ : Kd} {qa : Nat} {qb : Nat} {σ : Sg} {q : Sg} (h : f_X12_copy qa qb σ = some q) : AMet κ pX12_copy 1 [aR 13 1986 qa, aR 13 1986 qb] σ (none, q) := by
  unfold f_X12_copy at h
  refine amet_of okp_X12_copy [(false, aR 13 1986 qa), (false, aR 13 1986 qb)] (List.forall_mem_cons.mpr ⟨rfl, List.forall_mem_cons.mpr ⟨rfl, (fun _ hn => absurd hn List.not_mem_nil)⟩⟩) 1 rfl ?_
  show AW κ pX12_copy 1 (none, q) 0 [some (aR 13 1986 qa), some (aR 13 1986 qb), none] [] σ
  refine aw_seq [(.iconst 0, 1, (axI 0)), (.istore_n 2, 1, ax0)] (pc' := 2) (L' := [some (aR 13 1986 qa), some (aR 13 1986 qb), some (aI 0)]) (stk' := []) (σ' := σ) (g := []) (by decide +kernel) rfl rfl ?_
  refine aw_forget (L' := [some (aR 13 1986 qa), some (aR 13 1986 qb), some (aI 0)]) (lsub_s (lsub_s (lsub_s (lsub_0)))) ?_
  exact ok_X12_copy_2 FU 0 σ _ h
def f_X12_isIn_15   (s0 : Int32) (σ : Sg) : Option (Int32 × Sg) :=
  grd (bz s0) <| some (s0, σ)
set_option maxRecDepth 100000 in
set_option maxHeartbeats 4000000 in
theorem ok_X12_isIn_15 {κ : Kd}    : ∀ (s0 : Int32) (σ : Sg) (q : (Int32 × Sg)), f_X12_isIn_15 s0 σ = some q → AW κ pX12_isIn 1 (some (aI q.1), q.2) 15 [none, none, none] [aI s0] σ := by
  intro s0 σ q h
  unfold f_X12_isIn_15 at h
  obtain ⟨hg, h⟩ := grd_some h
  cases h
  exact aw_zret rfl hg (by decide +kernel)
def f_X12_isIn_14    (σ : Sg) : Option (Int32 × Sg) :=
  f_X12_isIn_15 0 σ
set_option maxRecDepth 100000 in
set_option maxHeartbeats 4000000 in
theorem ok_X12_isIn_14 {κ : Kd}    : ∀  (σ : Sg) (q : (Int32 × Sg)), f_X12_isIn_14  σ = some q → AW κ pX12_isIn 1 (some (aI q.1), q.2) 14 [none, none, none] [] σ := by
  intro  σ q h
  unfold f_X12_isIn_14 at h
  refine aw_seq [(.iconst 0, 1, (axI 0))] (pc' := 15) (L' := [none, none, none]) (stk' := [aI 0]) (σ' := σ) (g := []) (by decide +kernel) rfl rfl ?_
  refine aw_forget (L' := [none, none, none]) (lsub_n (lsub_n (lsub_n (lsub_0)))) ?_
  exact ok_X12_isIn_15 0 σ _ h
def f_X12_isIn (v0 : Int32) (v1 : Int32) (v2 : Int32) (σ : Sg) : Option (Int32 × Sg) :=
  if v0 < v1 then (
    f_X12_isIn_14 σ
  ) else (
    if v2 < v0 then (
      f_X12_isIn_14 σ
    ) else (
      f_X12_isIn_15 1 σ
    )
  )
set_option maxRecDepth 100000 in
set_option maxHeartbeats 4000000 in
theorem ok_X12_isIn {κ : Kd} {v0 : Int32} {v1 : Int32} {v2 : Int32} {σ : Sg} {q : (Int32 × Sg)} (h : f_X12_isIn v0 v1 v2 σ = some q) : AMet κ pX12_isIn 1 [aI v0, aI v1, aI v2] σ (some (aI q.1), q.2) := by
  unfold f_X12_isIn at h
  refine amet_of okp_X12_isIn [(false, aI v0), (false, aI v1), (false, aI v2)] (List.forall_mem_cons.mpr ⟨rfl, List.forall_mem_cons.mpr ⟨rfl, List.forall_mem_cons.mpr ⟨rfl, (fun _ hn => absurd hn List.not_mem_nil)⟩⟩⟩) 0 rfl ?_
  show AW κ pX12_isIn 1 (some (aI q.1), q.2) 0 [some (aI v0), some (aI v1), some (aI v2)] [] σ
  refine aw_seq [(.iload_n 0, 1, ax0), (.iload_n 1, 1, ax0)] (pc' := 2) (L' := [some (aI v0), some (aI v1), some (aI v2)]) (stk' := [aI v1, aI v0]) (σ' := σ) (g := []) (by decide +kernel) rfl rfl ?_
  refine aw_icmp_lt (off := 12) (tgt := 14) (by decide +kernel) (by decide) (fun c1 => ?_) (fun c1 => ?_)
  · rw [if_pos c1] at h
    refine aw_forget (L' := [none, none, none]) (lsub_n (lsub_n (lsub_n (lsub_0)))) ?_
    exact ok_X12_isIn_14 σ _ h
  · rw [if_neg c1] at h
    refine aw_seq [(.iload_n 0, 1, ax0), (.iload_n 2, 1, ax0)] (pc' := 7) (L' := [some (aI v0), some (aI v1), some (aI v2)]) (stk' := [aI v2, aI v0]) (σ' := σ) (g := []) (by decide +kernel) rfl rfl ?_
    refine aw_icmp_gt (off := 7) (tgt := 14) (by decide +kernel) (by decide) (fun c1 => ?_) (fun c1 => ?_)
    · rw [if_pos c1] at h
      refine aw_forget (L' := [none, none, none]) (lsub_n (lsub_n (lsub_n (lsub_0)))) ?_
      exact ok_X12_isIn_14 σ _ h
    · rw [if_neg c1] at h
      refine aw_seq [(.iconst 1, 1, (axI 1))] (pc' := 11) (L' := [some (aI v0), some (aI v1), some (aI v2)]) (stk' := [aI 1]) (σ' := σ) (g := []) (by decide +kernel) rfl rfl ?_
      refine aw_goto (off := 4) (tgt := 15) (by decide +kernel) (by decide) ?_
      refine aw_forget (L' := [none, none, none]) (lsub_n (lsub_n (lsub_n (lsub_0)))) ?_
      exact ok_X12_isIn_15 1 σ _ h
def f_X12_cut_24   (s0 : Int32) (σ : Sg) : Option (Int32 × Sg) :=
  some (s0, σ)
set_option maxRecDepth 100000 in
set_option maxHeartbeats 4000000 in
theorem ok_X12_cut_24 {κ : Kd}    : ∀ (s0 : Int32) (σ : Sg) (q : (Int32 × Sg)), f_X12_cut_24 s0 σ = some q → AW κ pX12_cut 1 (some (aI q.1), q.2) 24 [none, none, none, none] [aI s0] σ := by
  intro s0 σ q h
  unfold f_X12_cut_24 at h
  cases h
  exact aw_iret rfl (by decide +kernel)
def f_X12_cut (v0 : Int64) (v2 : Int32) (v3 : Int32) (σ : Sg) : Option (Int32 × Sg) :=
  if 0 ≤ (lg_cmp v0 (Int32.toInt64 v2)) then (
    if (lg_cmp v0 (Int32.toInt64 v3)) ≤ 0 then (
      f_X12_cut_24 (Int64.toInt32 v0) σ
    ) else (
      f_X12_cut_24 v3 σ
    )
  ) else (
    f_X12_cut_24 v2 σ
  )
set_option maxRecDepth 100000 in
set_option maxHeartbeats 4000000 in
theorem ok_X12_cut {κ : Kd} {v0 : Int64} {v2 : Int32} {v3 : Int32} {σ : Sg} {q : (Int32 × Sg)} (h : f_X12_cut v0 v2 v3 σ = some q) : AMet κ pX12_cut 1 [aL v0, aI v2, aI v3] σ (some (aI q.1), q.2) := by
  unfold f_X12_cut at h
  refine amet_of okp_X12_cut [(true, aL v0), (false, aI v2), (false, aI v3)] (List.forall_mem_cons.mpr ⟨rfl, List.forall_mem_cons.mpr ⟨rfl, List.forall_mem_cons.mpr ⟨rfl, (fun _ hn => absurd hn List.not_mem_nil)⟩⟩⟩) 0 rfl ?_
  show AW κ pX12_cut 1 (some (aI q.1), q.2) 0 [some (aL v0), none, some (aI v2), some (aI v3)] [] σ
  refine aw_seq [(.lload_n 0, 1, ax0), (.iload_n 2, 1, ax0), (.i2l, 1, ax0), (.lcmp, 1, ax0)] (pc' := 4) (L' := [some (aL v0), none, some (aI v2), some (aI v3)]) (stk' := [aI (lg_cmp v0 (Int32.toInt64 v2))]) (σ' := σ) (g := []) (by decide +kernel) rfl rfl ?_
  refine aw_if_ge (off := 7) (tgt := 11) (by decide +kernel) (by decide) (fun c1 => ?_) (fun c1 => ?_)
  · rw [if_pos c1] at h
    refine aw_seq [(.lload_n 0, 1, ax0), (.iload_n 3, 1, ax0), (.i2l, 1, ax0), (.lcmp, 1, ax0)] (pc' := 15) (L' := [some (aL v0), none, some (aI v2), some (aI v3)]) (stk' := [aI (lg_cmp v0 (Int32.toInt64 v3))]) (σ' := σ) (g := []) (by decide +kernel) rfl rfl ?_
    refine aw_if_le (off := 7) (tgt := 22) (by decide +kernel) (by decide) (fun c1 => ?_) (fun c1 => ?_)
    · rw [if_pos c1] at h
      refine aw_seq [(.lload_n 0, 1, ax0), (.l2i, 1, ax0)] (pc' := 24) (L' := [some (aL v0), none, some (aI v2), some (aI v3)]) (stk' := [aI (Int64.toInt32 v0)]) (σ' := σ) (g := []) (by decide +kernel) rfl rfl ?_
      refine aw_forget (L' := [none, none, none, none]) (lsub_n (lsub_n (lsub_n (lsub_n (lsub_0))))) ?_
      exact ok_X12_cut_24 (Int64.toInt32 v0) σ _ h
    · rw [if_neg c1] at h
      refine aw_seq [(.iload_n 3, 1, ax0)] (pc' := 19) (L' := [some (aL v0), none, some (aI v2), some (aI v3)]) (stk' := [aI v3]) (σ' := σ) (g := []) (by decide +kernel) rfl rfl ?_
      refine aw_goto (off := 5) (tgt := 24) (by decide +kernel) (by decide) ?_
      refine aw_forget (L' := [none, none, none, none]) (lsub_n (lsub_n (lsub_n (lsub_n (lsub_0))))) ?_
      exact ok_X12_cut_24 v3 σ _ h
  · rw [if_neg c1] at h
    refine aw_seq [(.iload_n 2, 1, ax0)] (pc' := 8) (L' := [some (aL v0), none, some (aI v2), some (aI v3)]) (stk' := [aI v2]) (σ' := σ) (g := []) (by decide +kernel) rfl rfl ?_
    refine aw_goto (off := 16) (tgt := 24) (by decide +kernel) (by decide) ?_
    refine aw_forget (L' := [none, none, none, none]) (lsub_n (lsub_n (lsub_n (lsub_n (lsub_0))))) ?_
    exact ok_X12_cut_24 v2 σ _ h
def f_X12_has_14   (s0 : Int32) (σ : Sg) : Option (Int32 × Sg) :=
  grd (bz s0) <| some (s0, σ)
set_option maxRecDepth 100000 in
set_option maxHeartbeats 4000000 in
theorem ok_X12_has_14 {κ : Kd}    : ∀ (s0 : Int32) (σ : Sg) (q : (Int32 × Sg)), f_X12_has_14 s0 σ = some q → AW κ pX12_has 1 (some (aI q.1), q.2) 14 [none, none] [aI s0] σ := by
  intro s0 σ q h
  unfold f_X12_has_14 at h
  obtain ⟨hg, h⟩ := grd_some h
  cases h
  exact aw_zret rfl hg (by decide +kernel)
def f_X12_has (v0 : Int32) (v1 : Int32) (σ : Sg) : Option (Int32 × Sg) :=
  if ((shr v0 v1) &&& 1) = 1 then (
    f_X12_has_14 1 σ
  ) else (
    f_X12_has_14 0 σ
  )
set_option maxRecDepth 100000 in
set_option maxHeartbeats 4000000 in
theorem ok_X12_has {κ : Kd} {v0 : Int32} {v1 : Int32} {σ : Sg} {q : (Int32 × Sg)} (h : f_X12_has v0 v1 σ = some q) : AMet κ pX12_has 1 [aI v0, aI v1] σ (some (aI q.1), q.2) := by
  unfold f_X12_has at h
  refine amet_of okp_X12_has [(false, aI v0), (false, aI v1)] (List.forall_mem_cons.mpr ⟨rfl, List.forall_mem_cons.mpr ⟨rfl, (fun _ hn => absurd hn List.not_mem_nil)⟩⟩) 0 rfl ?_
  show AW κ pX12_has 1 (some (aI q.1), q.2) 0 [some (aI v0), some (aI v1)] [] σ
  refine aw_seq [(.iload_n 0, 1, ax0), (.iload_n 1, 1, ax0), (.ishr, 1, ax0), (.iconst 1, 1, (axI 1)), (.iand, 1, ax0), (.iconst 1, 1, (axI 1))] (pc' := 6) (L' := [some (aI v0), some (aI v1)]) (stk' := [aI 1, aI ((shr v0 v1) &&& 1)]) (σ' := σ) (g := []) (by decide +kernel) rfl rfl ?_
  refine aw_icmp_ne (off := 7) (tgt := 13) (by decide +kernel) (by decide) (fun c1 => ?_) (fun c1 => ?_)
  · rw [if_neg c1] at h
    refine aw_seq [(.iconst 0, 1, (axI 0))] (pc' := 14) (L' := [some (aI v0), some (aI v1)]) (stk' := [aI 0]) (σ' := σ) (g := []) (by decide +kernel) rfl rfl ?_
    refine aw_forget (L' := [none, none]) (lsub_n (lsub_n (lsub_0))) ?_
    exact ok_X12_has_14 0 σ _ h
  · rw [if_pos c1] at h
    refine aw_seq [(.iconst 1, 1, (axI 1))] (pc' := 10) (L' := [some (aI v0), some (aI v1)]) (stk' := [aI 1]) (σ' := σ) (g := []) (by decide +kernel) rfl rfl ?_
    refine aw_goto (off := 4) (tgt := 14) (by decide +kernel) (by decide) ?_
    refine aw_forget (L' := [none, none]) (lsub_n (lsub_n (lsub_0))) ?_
    exact ok_X12_has_14 1 σ _ h
def f_X12_bits_4   : Nat → Int32 → Int32 → Sg → Option (Int32 × Sg)
  | 0, _, _, _ => none
  | fu + 1, v1, v2, σ =>
    if v2 = 0 then (
      some (v1, σ)
    ) else (
      (f_X12_bits_4 fu) (v1 + 1) (v2 &&& (v2 - 1)) σ
    )
set_option maxRecDepth 100000 in
set_option maxHeartbeats 4000000 in
theorem ok_X12_bits_4 {κ : Kd}    : ∀ (fu : Nat) (v1 : Int32) (v2 : Int32) (σ : Sg) (q : (Int32 × Sg)), f_X12_bits_4 fu v1 v2 σ = some q → AW κ pX12_bits 1 (some (aI q.1), q.2) 4 [none, some (aI v1), some (aI v2)] [] σ := by
  intro fu
  induction fu with
  | zero =>
    intro v1 v2 σ q h
    unfold f_X12_bits_4 at h
    cases h
  | succ fu ih =>
    intro v1 v2 σ q h
    unfold f_X12_bits_4 at h
    refine aw_seq [(.iload_n 2, 1, ax0)] (pc' := 5) (L' := [none, some (aI v1), some (aI v2)]) (stk' := [aI v2]) (σ' := σ) (g := []) (by decide +kernel) rfl rfl ?_
    refine aw_if_eq (off := 15) (tgt := 20) (by decide +kernel) (by decide) (fun c1 => ?_) (fun c1 => ?_)
    · rw [if_pos c1] at h
      refine aw_seq [(.iload_n 1, 1, ax0)] (pc' := 21) (L' := [none, some (aI v1), some (aI v2)]) (stk' := [aI v1]) (σ' := σ) (g := []) (by decide +kernel) rfl rfl ?_
      cases h
      exact aw_iret rfl (by decide +kernel)
    · rw [if_neg c1] at h
      refine aw_seq [(.iinc 1 1, 3, (axI 1)), (.iload_n 2, 1, ax0), (.iload_n 2, 1, ax0), (.iconst 1, 1, (axI 1)), (.isub, 1, ax0), (.iand, 1, ax0), (.istore_n 2, 1, ax0)] (pc' := 17) (L' := [none, some (aI (v1 + 1)), some (aI (v2 &&& (v2 - 1)))]) (stk' := []) (σ' := σ) (g := []) (by decide +kernel) rfl rfl ?_
      refine aw_goto (off := (-13)) (tgt := 4) (by decide +kernel) (by decide) ?_
      refine aw_forget (L' := [none, some (aI (v1 + 1)), some (aI (v2 &&& (v2 - 1)))]) (lsub_n (lsub_s (lsub_s (lsub_0)))) ?_
      exact ih (v1 + 1) (v2 &&& (v2 - 1)) σ _ h
def f_X12_bits (v0 : Int32) (σ : Sg) : Option (Int32 × Sg) :=
  f_X12_bits_4 FU 0 v0 σ
set_option maxRecDepth 100000 in
set_option maxHeartbeats 4000000 in
theorem ok_X12_bits {κ : Kd} {v0 : Int32} {σ : Sg} {q : (Int32 × Sg)} (h : f_X12_bits v0 σ = some q) : AMet κ pX12_bits 1 [aI v0] σ (some (aI q.1), q.2) := by
  unfold f_X12_bits at h
  refine amet_of okp_X12_bits [(false, aI v0)] (List.forall_mem_cons.mpr ⟨rfl, (fun _ hn => absurd hn List.not_mem_nil)⟩) 2 rfl ?_
  show AW κ pX12_bits 1 (some (aI q.1), q.2) 0 [some (aI v0), none, none] [] σ
  refine aw_seq [(.iconst 0, 1, (axI 0)), (.istore_n 1, 1, ax0), (.iload_n 0, 1, ax0), (.istore_n 2, 1, ax0)] (pc' := 4) (L' := [some (aI v0), some (aI 0), some (aI v0)]) (stk' := []) (σ' := σ) (g := []) (by decide +kernel) rfl rfl ?_
  refine aw_forget (L' := [none, some (aI 0), some (aI v0)]) (lsub_n (lsub_s (lsub_s (lsub_0)))) ?_
  exact ok_X12_bits_4 FU 0 v0 σ _ h
def f_X12_isHouse (v1 : Int32) (σ : Sg) : Option (Int32 × Sg) :=
  grd (inb 0 1986 && true) <|
  bnd (f_X12_isIn v1 0 ((σ.1 1 (ix 0)) - 1) σ) fun r3 σ2 =>
  grd (bz r3) <| some (r3, σ2)
set_option maxRecDepth 100000 in
set_option maxHeartbeats 4000000 in
theorem ok_X12_isHouse {κ : Kd} {v1 : Int32} {σ : Sg} {q : (Int32 × Sg)} (h : f_X12_isHouse v1 σ = some q) : AMet κ pX12_isHouse 2 [aR 12 0 0, aI v1] σ (some (aI q.1), q.2) := by
  unfold f_X12_isHouse at h
  refine amet_of okp_X12_isHouse [(false, aR 12 0 0), (false, aI v1)] (List.forall_mem_cons.mpr ⟨rfl, List.forall_mem_cons.mpr ⟨rfl, (fun _ hn => absurd hn List.not_mem_nil)⟩⟩) 0 rfl ?_
  show AW κ pX12_isHouse 2 (some (aI q.1), q.2) 0 [some (aR 12 0 0), some (aI v1)] [] σ
  obtain ⟨hg, h⟩ := grd_some h
  refine aw_seq [(.iload_n 1, 1, ax0), (.iconst 0, 1, (axI 0)), (.aload_n 0, 1, ax0), (.getfield 7, 3, (axF 12 0 (2, 1, 13, some 1986))), (.iconst 0, 1, (axI 0)), (.iaload, 1, ax0), (.iconst 1, 1, (axI 1)), (.isub, 1, ax0)] (pc' := 10) (L' := [some (aR 12 0 0), some (aI v1)]) (stk' := [aI ((σ.1 1 (ix 0)) - 1), aI 0, aI v1]) (σ' := σ) (g := [inb 0 1986]) (by decide +kernel) rfl hg ?_
  obtain ⟨r3, σ2, h1, h⟩ := bnd_some h
  refine aw_cS (P' := pX12_isIn) (idx := 69) (d' := 1) [aI v1, aI 0, aI ((σ.1 1 (ix 0)) - 1)] [] (ov := (some (aI r3))) (stk2 := [aI r3]) okp_X12_isIn (by decide +kernel) ml_RX12_69 tok_X12_isIn nar_X12_isIn (by decide) rfl (Nat.le_of_ble_eq_true rfl) (ok_X12_isIn h1) rfl ?_
  obtain ⟨hg, h⟩ := grd_some h
  cases h
  exact aw_zret rfl hg (by decide +kernel)
def f_X12_get (v1 : Int32) (v2 : Int32) (σ : Sg) : Option (Int32 × Sg) :=
  grd (inb ((10 + (5 * v1)) + v2) 1986 && true) <|
  some ((σ.1 1 (ix ((10 + (5 * v1)) + v2))), σ)
set_option maxRecDepth 100000 in
set_option maxHeartbeats 4000000 in
theorem ok_X12_get {κ : Kd} {v1 : Int32} {v2 : Int32} {σ : Sg} {q : (Int32 × Sg)} (h : f_X12_get v1 v2 σ = some q) : AMet κ pX12_get 1 [aR 12 0 0, aI v1, aI v2] σ (some (aI q.1), q.2) := by
  unfold f_X12_get at h
  refine amet_of okp_X12_get [(false, aR 12 0 0), (false, aI v1), (false, aI v2)] (List.forall_mem_cons.mpr ⟨rfl, List.forall_mem_cons.mpr ⟨rfl, List.forall_mem_cons.mpr ⟨rfl, (fun _ hn => absurd hn List.not_mem_nil)⟩⟩⟩) 0 rfl ?_
  show AW κ pX12_get 1 (some (aI q.1), q.2) 0 [some (aR 12 0 0), some (aI v1), some (aI v2)] [] σ
  obtain ⟨hg, h⟩ := grd_some h
  refine aw_seq [(.aload_n 0, 1, ax0), (.getfield 7, 3, (axF 12 0 (2, 1, 13, some 1986))), (.bipush 10, 2, (axI 10)), (.iconst 5, 1, (axI 5)), (.iload_n 1, 1, ax0), (.imul, 1, ax0), (.iadd, 1, ax0), (.iload_n 2, 1, ax0), (.iadd, 1, ax0), (.iaload, 1, ax0)] (pc' := 13) (L' := [some (aR 12 0 0), some (aI v1), some (aI v2)]) (stk' := [aI (σ.1 1 (ix ((10 + (5 * v1)) + v2)))]) (σ' := σ) (g := [inb ((10 + (5 * v1)) + v2) 1986]) (by decide +kernel) rfl hg ?_
  cases h
  exact aw_iret rfl (by decide +kernel)
def f_X12_put (v1 : Int32) (v2 : Int32) (v3 : Int32) (σ : Sg) : Option Sg :=
  grd (inb ((10 + (5 * v1)) + v2) 1986 && true) <|
  ltσ (wI σ 1 (ix ((10 + (5 * v1)) + v2)) v3) fun σ1 =>
  some σ1
set_option maxRecDepth 100000 in
set_option maxHeartbeats 4000000 in
theorem ok_X12_put {κ : Kd} {v1 : Int32} {v2 : Int32} {v3 : Int32} {σ : Sg} {q : Sg} (h : f_X12_put v1 v2 v3 σ = some q) : AMet κ pX12_put 1 [aR 12 0 0, aI v1, aI v2, aI v3] σ (none, q) := by
  unfold f_X12_put at h
  refine amet_of okp_X12_put [(false, aR 12 0 0), (false, aI v1), (false, aI v2), (false, aI v3)] (List.forall_mem_cons.mpr ⟨rfl, List.forall_mem_cons.mpr ⟨rfl, List.forall_mem_cons.mpr ⟨rfl, List.forall_mem_cons.mpr ⟨rfl, (fun _ hn => absurd hn List.not_mem_nil)⟩⟩⟩⟩) 0 rfl ?_
  show AW κ pX12_put 1 (none, q) 0 [some (aR 12 0 0), some (aI v1), some (aI v2), some (aI v3)] [] σ
  obtain ⟨hg, h⟩ := grd_some h
  obtain ⟨σ1, e2, h⟩ := ltσ_some h
  refine aw_seq [(.aload_n 0, 1, ax0), (.getfield 7, 3, (axF 12 0 (2, 1, 13, some 1986))), (.bipush 10, 2, (axI 10)), (.iconst 5, 1, (axI 5)), (.iload_n 1, 1, ax0), (.imul, 1, ax0), (.iadd, 1, ax0), (.iload_n 2, 1, ax0), (.iadd, 1, ax0), (.iload_n 3, 1, ax0), (.iastore, 1, ax0)] (pc' := 14) (L' := [some (aR 12 0 0), some (aI v1), some (aI v2), some (aI v3)]) (stk' := []) (σ' := σ1) (g := [inb ((10 + (5 * v1)) + v2) 1986]) (by decide +kernel) (by rw [e2]; rfl) hg ?_
  cases h
  exact aw_vret rfl (by decide +kernel)
def f_X12_lengthOf (v1 : Int32) (v2 : Int32) (σ : Sg) : Option (Int32 × Sg) :=
  grd (inb ((50 + (8 * v1)) + v2) 1986 && true) <|
  some ((σ.1 1 (ix ((50 + (8 * v1)) + v2))), σ)
set_option maxRecDepth 100000 in
set_option maxHeartbeats 4000000 in
theorem ok_X12_lengthOf {κ : Kd} {v1 : Int32} {v2 : Int32} {σ : Sg} {q : (Int32 × Sg)} (h : f_X12_lengthOf v1 v2 σ = some q) : AMet κ pX12_lengthOf 1 [aR 12 0 0, aI v1, aI v2] σ (some (aI q.1), q.2) := by
  unfold f_X12_lengthOf at h
  refine amet_of okp_X12_lengthOf [(false, aR 12 0 0), (false, aI v1), (false, aI v2)] (List.forall_mem_cons.mpr ⟨rfl, List.forall_mem_cons.mpr ⟨rfl, List.forall_mem_cons.mpr ⟨rfl, (fun _ hn => absurd hn List.not_mem_nil)⟩⟩⟩) 0 rfl ?_
  show AW κ pX12_lengthOf 1 (some (aI q.1), q.2) 0 [some (aR 12 0 0), some (aI v1), some (aI v2)] [] σ
  obtain ⟨hg, h⟩ := grd_some h
  refine aw_seq [(.aload_n 0, 1, ax0), (.getfield 7, 3, (axF 12 0 (2, 1, 13, some 1986))), (.bipush 50, 2, (axI 50)), (.bipush 8, 2, (axI 8)), (.iload_n 1, 1, ax0), (.imul, 1, ax0), (.iadd, 1, ax0), (.iload_n 2, 1, ax0), (.iadd, 1, ax0), (.iaload, 1, ax0)] (pc' := 14) (L' := [some (aR 12 0 0), some (aI v1), some (aI v2)]) (stk' := [aI (σ.1 1 (ix ((50 + (8 * v1)) + v2)))]) (σ' := σ) (g := [inb ((50 + (8 * v1)) + v2) 1986]) (by decide +kernel) rfl hg ?_
  cases h
  exact aw_iret rfl (by decide +kernel)
def f_X12_beside_31  (rec_4 : Int32 → Int32 → Int32 → Sg → Option (Int32 × Sg)) (v1 : Int32) (v3 : Int32) (s0 : Int32) (s1 : Int32) (σ : Sg) : Option (Int32 × Sg) :=
  rec_4 v1 (s0 ||| s1) (v3 + 1) σ
set_option maxRecDepth 100000 in
set_option maxHeartbeats 4000000 in
theorem ok_X12_beside_31 {κ : Kd}   {rec_4 : Int32 → Int32 → Int32 → Sg → Option (Int32 × Sg)} (hrec_4 : ∀ (v1 : Int32) (v2 : Int32) (v3 : Int32) (σ : Sg) (q : (Int32 × Sg)), rec_4 v1 v2 v3 σ = some q → AW κ pX12_beside 2 (some (aI q.1), q.2) 4 [some (aR 12 0 0), some (aI v1), some (aI v2), some (aI v3)] [] σ) : ∀ (v1 : Int32) (v3 : Int32) (s0 : Int32) (s1 : Int32) (σ : Sg) (q : (Int32 × Sg)), f_X12_beside_31 rec_4 v1 v3 s0 s1 σ = some q → AW κ pX12_beside 2 (some (aI q.1), q.2) 31 [some (aR 12 0 0), some (aI v1), none, some (aI v3)] [aI s1, aI s0] σ := by
  intro v1 v3 s0 s1 σ q h
  unfold f_X12_beside_31 at h
  refine aw_seq [(.ior, 1, ax0), (.istore_n 2, 1, ax0), (.iinc 3 1, 3, (axI 1))] (pc' := 36) (L' := [some (aR 12 0 0), some (aI v1), some (aI (s0 ||| s1)), some (aI (v3 + 1))]) (stk' := []) (σ' := σ) (g := []) (by decide +kernel) rfl rfl ?_
  refine aw_goto (off := (-32)) (tgt := 4) (by decide +kernel) (by decide) ?_
  refine aw_forget (L' := [some (aR 12 0 0), some (aI v1), some (aI (s0 ||| s1)), some (aI (v3 + 1))]) (lsub_s (lsub_s (lsub_s (lsub_s (lsub_0))))) ?_
  exact hrec_4 v1 (s0 ||| s1) (v3 + 1) σ _ h
def f_X12_beside_4   : Nat → Int32 → Int32 → Int32 → Sg → Option (Int32 × Sg)
  | 0, _, _, _, _ => none
  | fu + 1, v1, v2, v3, σ =>
    grd (inb 0 1986 && true) <|
    if (σ.1 1 (ix 0)) ≤ v3 then (
      some (v2, σ)
    ) else (
      bnd (f_X12_lengthOf v1 v3 σ) fun r3 σ2 =>
      if r3 ≤ 0 then (
        f_X12_beside_31 (f_X12_beside_4 fu) v1 v3 v2 0 σ2
      ) else (
        f_X12_beside_31 (f_X12_beside_4 fu) v1 v3 v2 (shl 1 v3) σ2
      )
    )
set_option maxRecDepth 100000 in
set_option maxHeartbeats 4000000 in
theorem ok_X12_beside_4 {κ : Kd}    : ∀ (fu : Nat) (v1 : Int32) (v2 : Int32) (v3 : Int32) (σ : Sg) (q : (Int32 × Sg)), f_X12_beside_4 fu v1 v2 v3 σ = some q → AW κ pX12_beside 2 (some (aI q.1), q.2) 4 [some (aR 12 0 0), some (aI v1), some (aI v2), some (aI v3)] [] σ := by
  intro fu
  induction fu with
  | zero =>
    intro v1 v2 v3 σ q h
    unfold f_X12_beside_4 at h
    cases h
  | succ fu ih =>
    intro v1 v2 v3 σ q h
    unfold f_X12_beside_4 at h
    obtain ⟨hg, h⟩ := grd_some h
    refine aw_seq [(.iload_n 3, 1, ax0), (.aload_n 0, 1, ax0), (.getfield 7, 3, (axF 12 0 (2, 1, 13, some 1986))), (.iconst 0, 1, (axI 0)), (.iaload, 1, ax0)] (pc' := 11) (L' := [some (aR 12 0 0), some (aI v1), some (aI v2), some (aI v3)]) (stk' := [aI (σ.1 1 (ix 0)), aI v3]) (σ' := σ) (g := [inb 0 1986]) (by decide +kernel) rfl hg ?_
    refine aw_icmp_ge (off := 28) (tgt := 39) (by decide +kernel) (by decide) (fun c1 => ?_) (fun c1 => ?_)
    · rw [if_pos c1] at h
      refine aw_seq [(.iload_n 2, 1, ax0)] (pc' := 40) (L' := [some (aR 12 0 0), some (aI v1), some (aI v2), some (aI v3)]) (stk' := [aI v2]) (σ' := σ) (g := []) (by decide +kernel) rfl rfl ?_
      cases h
      exact aw_iret rfl (by decide +kernel)
    · rw [if_neg c1] at h
      refine aw_seq [(.iload_n 2, 1, ax0), (.aload_n 0, 1, ax0), (.iload_n 1, 1, ax0), (.iload_n 3, 1, ax0)] (pc' := 18) (L' := [some (aR 12 0 0), some (aI v1), some (aI v2), some (aI v3)]) (stk' := [aI v3, aI v1, aR 12 0 0, aI v2]) (σ' := σ) (g := []) (by decide +kernel) rfl rfl ?_
      obtain ⟨r3, σ2, h1, h⟩ := bnd_some h
      refine aw_cV (P' := pX12_lengthOf) (idx := 73) (d' := 1) (c := 12) (n := 0) (k := 0) [aI v1, aI v3] [aI v2] (ov := (some (aI r3))) (stk2 := [aI r3, aI v2]) okp_X12_lengthOf (by decide +kernel) ml_RX12_73 vok_X12_lengthOf (by decide) rfl nar_X12_lengthOf (by decide) rfl (Nat.le_of_ble_eq_true rfl) (ok_X12_lengthOf h1) rfl ?_
      refine aw_if_le (off := 9) (tgt := 30) (by decide +kernel) (by decide) (fun c1 => ?_) (fun c1 => ?_)
      · rw [if_pos c1] at h
        refine aw_seq [(.iconst 0, 1, (axI 0))] (pc' := 31) (L' := [some (aR 12 0 0), some (aI v1), some (aI v2), some (aI v3)]) (stk' := [aI 0, aI v2]) (σ' := σ2) (g := []) (by decide +kernel) rfl rfl ?_
        refine aw_forget (L' := [some (aR 12 0 0), some (aI v1), none, some (aI v3)]) (lsub_s (lsub_s (lsub_n (lsub_s (lsub_0))))) ?_
        exact ok_X12_beside_31 ih v1 v3 v2 0 σ2 _ h
      · rw [if_neg c1] at h
        refine aw_seq [(.iconst 1, 1, (axI 1)), (.iload_n 3, 1, ax0), (.ishl, 1, ax0)] (pc' := 27) (L' := [some (aR 12 0 0), some (aI v1), some (aI v2), some (aI v3)]) (stk' := [aI (shl 1 v3), aI v2]) (σ' := σ2) (g := []) (by decide +kernel) rfl rfl ?_
        refine aw_goto (off := 4) (tgt := 31) (by decide +kernel) (by decide) ?_
        refine aw_forget (L' := [some (aR 12 0 0), some (aI v1), none, some (aI v3)]) (lsub_s (lsub_s (lsub_n (lsub_s (lsub_0))))) ?_
        exact ok_X12_beside_31 ih v1 v3 v2 (shl 1 v3) σ2 _ h
def f_X12_beside (v1 : Int32) (σ : Sg) : Option (Int32 × Sg) :=
  f_X12_beside_4 FU v1 0 0 σ
set_option maxRecDepth 100000 in
set_option maxHeartbeats 4000000 in
theorem ok_X12_beside {κ : Kd} {v1 : Int32} {σ : Sg} {q : (Int32 × Sg)} (h : f_X12_beside v1 σ = some q) : AMet κ pX12_beside 2 [aR 12 0 0, aI v1] σ (some (aI q.1), q.2) := by
  unfold f_X12_beside at h
  refine amet_of okp_X12_beside [(false, aR 12 0 0), (false, aI v1)] (List.forall_mem_cons.mpr ⟨rfl, List.forall_mem_cons.mpr ⟨rfl, (fun _ hn => absurd hn List.not_mem_nil)⟩⟩) 2 rfl ?_
  show AW κ pX12_beside 2 (some (aI q.1), q.2) 0 [some (aR 12 0 0), some (aI v1), none, none] [] σ
  refine aw_seq [(.iconst 0, 1, (axI 0)), (.istore_n 2, 1, ax0), (.iconst 0, 1, (axI 0)), (.istore_n 3, 1, ax0)] (pc' := 4) (L' := [some (aR 12 0 0), some (aI v1), some (aI 0), some (aI 0)]) (stk' := []) (σ' := σ) (g := []) (by decide +kernel) rfl rfl ?_
  refine aw_forget (L' := [some (aR 12 0 0), some (aI v1), some (aI 0), some (aI 0)]) (lsub_s (lsub_s (lsub_s (lsub_s (lsub_0))))) ?_
  exact ok_X12_beside_4 FU v1 0 0 σ _ h
def f_X12_allOf_32  (rec_4 : Int32 → Int32 → Int32 → Sg → Option (Int32 × Sg)) (v1 : Int32) (v3 : Int32) (s0 : Int32) (s1 : Int32) (σ : Sg) : Option (Int32 × Sg) :=
  rec_4 v1 (s0 ||| s1) (v3 + 1) σ
set_option maxRecDepth 100000 in
set_option maxHeartbeats 4000000 in
theorem ok_X12_allOf_32 {κ : Kd}   {rec_4 : Int32 → Int32 → Int32 → Sg → Option (Int32 × Sg)} (hrec_4 : ∀ (v1 : Int32) (v2 : Int32) (v3 : Int32) (σ : Sg) (q : (Int32 × Sg)), rec_4 v1 v2 v3 σ = some q → AW κ pX12_allOf 2 (some (aI q.1), q.2) 4 [some (aR 12 0 0), some (aI v1), some (aI v2), some (aI v3)] [] σ) : ∀ (v1 : Int32) (v3 : Int32) (s0 : Int32) (s1 : Int32) (σ : Sg) (q : (Int32 × Sg)), f_X12_allOf_32 rec_4 v1 v3 s0 s1 σ = some q → AW κ pX12_allOf 2 (some (aI q.1), q.2) 32 [some (aR 12 0 0), some (aI v1), none, some (aI v3)] [aI s1, aI s0] σ := by
  intro v1 v3 s0 s1 σ q h
  unfold f_X12_allOf_32 at h
  refine aw_seq [(.ior, 1, ax0), (.istore_n 2, 1, ax0), (.iinc 3 1, 3, (axI 1))] (pc' := 37) (L' := [some (aR 12 0 0), some (aI v1), some (aI (s0 ||| s1)), some (aI (v3 + 1))]) (stk' := []) (σ' := σ) (g := []) (by decide +kernel) rfl rfl ?_
  refine aw_goto (off := (-33)) (tgt := 4) (by decide +kernel) (by decide) ?_
  refine aw_forget (L' := [some (aR 12 0 0), some (aI v1), some (aI (s0 ||| s1)), some (aI (v3 + 1))]) (lsub_s (lsub_s (lsub_s (lsub_s (lsub_0))))) ?_
  exact hrec_4 v1 (s0 ||| s1) (v3 + 1) σ _ h
def f_X12_allOf_4   : Nat → Int32 → Int32 → Int32 → Sg → Option (Int32 × Sg)
  | 0, _, _, _, _ => none
  | fu + 1, v1, v2, v3, σ =>
    grd (inb 0 1986 && true) <|
    if (σ.1 1 (ix 0)) ≤ v3 then (
      some (v2, σ)
    ) else (
      bnd (f_X12_get v3 0 σ) fun r3 σ2 =>
      if r3 = v1 then (
        f_X12_allOf_32 (f_X12_allOf_4 fu) v1 v3 v2 (shl 1 v3) σ2
      ) else (
        f_X12_allOf_32 (f_X12_allOf_4 fu) v1 v3 v2 0 σ2
      )
    )
set_option maxRecDepth 100000 in
set_option maxHeartbeats 4000000 in
theorem ok_X12_allOf_4 {κ : Kd}    : ∀ (fu : Nat) (v1 : Int32) (v2 : Int32) (v3 : Int32) (σ : Sg) (q : (Int32 × Sg)), f_X12_allOf_4 fu v1 v2 v3 σ = some q → AW κ pX12_allOf 2 (some (aI q.1), q.2) 4 [some (aR 12 0 0), some (aI v1), some (aI v2), some (aI v3)] [] σ := by
  intro fu
  induction fu with
  | zero =>
    intro v1 v2 v3 σ q h
    unfold f_X12_allOf_4 at h
    cases h
  | succ fu ih =>
    intro v1 v2 v3 σ q h
    unfold f_X12_allOf_4 at h
    obtain ⟨hg, h⟩ := grd_some h
    refine aw_seq [(.iload_n 3, 1, ax0), (.aload_n 0, 1, ax0), (.getfield 7, 3, (axF 12 0 (2, 1, 13, some 1986))), (.iconst 0, 1, (axI 0)), (.iaload, 1, ax0)] (pc' := 11) (L' := [some (aR 12 0 0), some (aI v1), some (aI v2), some (aI v3)]) (stk' := [aI (σ.1 1 (ix 0)), aI v3]) (σ' := σ) (g := [inb 0 1986]) (by decide +kernel) rfl hg ?_
    refine aw_icmp_ge (off := 29) (tgt := 40) (by decide +kernel) (by decide) (fun c1 => ?_) (fun c1 => ?_)
    · rw [if_pos c1] at h
      refine aw_seq [(.iload_n 2, 1, ax0)] (pc' := 41) (L' := [some (aR 12 0 0), some (aI v1), some (aI v2), some (aI v3)]) (stk' := [aI v2]) (σ' := σ) (g := []) (by decide +kernel) rfl rfl ?_
      cases h
      exact aw_iret rfl (by decide +kernel)
    · rw [if_neg c1] at h
      refine aw_seq [(.iload_n 2, 1, ax0), (.aload_n 0, 1, ax0), (.iload_n 3, 1, ax0), (.iconst 0, 1, (axI 0))] (pc' := 18) (L' := [some (aR 12 0 0), some (aI v1), some (aI v2), some (aI v3)]) (stk' := [aI 0, aI v3, aR 12 0 0, aI v2]) (σ' := σ) (g := []) (by decide +kernel) rfl rfl ?_
      obtain ⟨r3, σ2, h1, h⟩ := bnd_some h
      refine aw_cV (P' := pX12_get) (idx := 77) (d' := 1) (c := 12) (n := 0) (k := 0) [aI v3, aI 0] [aI v2] (ov := (some (aI r3))) (stk2 := [aI r3, aI v2]) okp_X12_get (by decide +kernel) ml_RX12_77 vok_X12_get (by decide) rfl nar_X12_get (by decide) rfl (Nat.le_of_ble_eq_true rfl) (ok_X12_get h1) rfl ?_
      refine aw_seq [(.iload_n 1, 1, ax0)] (pc' := 22) (L' := [some (aR 12 0 0), some (aI v1), some (aI v2), some (aI v3)]) (stk' := [aI v1, aI r3, aI v2]) (σ' := σ2) (g := []) (by decide +kernel) rfl rfl ?_
      refine aw_icmp_ne (off := 9) (tgt := 31) (by decide +kernel) (by decide) (fun c1 => ?_) (fun c1 => ?_)
      · rw [if_neg c1] at h
        refine aw_seq [(.iconst 0, 1, (axI 0))] (pc' := 32) (L' := [some (aR 12 0 0), some (aI v1), some (aI v2), some (aI v3)]) (stk' := [aI 0, aI v2]) (σ' := σ2) (g := []) (by decide +kernel) rfl rfl ?_
        refine aw_forget (L' := [some (aR 12 0 0), some (aI v1), none, some (aI v3)]) (lsub_s (lsub_s (lsub_n (lsub_s (lsub_0))))) ?_
        exact ok_X12_allOf_32 ih v1 v3 v2 0 σ2 _ h
      · rw [if_pos c1] at h
        refine aw_seq [(.iconst 1, 1, (axI 1)), (.iload_n 3, 1, ax0), (.ishl, 1, ax0)] (pc' := 28) (L' := [some (aR 12 0 0), some (aI v1), some (aI v2), some (aI v3)]) (stk' := [aI (shl 1 v3), aI v2]) (σ' := σ2) (g := []) (by decide +kernel) rfl rfl ?_
        refine aw_goto (off := 4) (tgt := 32) (by decide +kernel) (by decide) ?_
        refine aw_forget (L' := [some (aR 12 0 0), some (aI v1), none, some (aI v3)]) (lsub_s (lsub_s (lsub_n (lsub_s (lsub_0))))) ?_
        exact ok_X12_allOf_32 ih v1 v3 v2 (shl 1 v3) σ2 _ h
def f_X12_allOf (v1 : Int32) (σ : Sg) : Option (Int32 × Sg) :=
  f_X12_allOf_4 FU v1 0 0 σ
set_option maxRecDepth 100000 in
set_option maxHeartbeats 4000000 in
theorem ok_X12_allOf {κ : Kd} {v1 : Int32} {σ : Sg} {q : (Int32 × Sg)} (h : f_X12_allOf v1 σ = some q) : AMet κ pX12_allOf 2 [aR 12 0 0, aI v1] σ (some (aI q.1), q.2) := by
  unfold f_X12_allOf at h
  refine amet_of okp_X12_allOf [(false, aR 12 0 0), (false, aI v1)] (List.forall_mem_cons.mpr ⟨rfl, List.forall_mem_cons.mpr ⟨rfl, (fun _ hn => absurd hn List.not_mem_nil)⟩⟩) 2 rfl ?_
  show AW κ pX12_allOf 2 (some (aI q.1), q.2) 0 [some (aR 12 0 0), some (aI v1), none, none] [] σ
  refine aw_seq [(.iconst 0, 1, (axI 0)), (.istore_n 2, 1, ax0), (.iconst 0, 1, (axI 0)), (.istore_n 3, 1, ax0)] (pc' := 4) (L' := [some (aR 12 0 0), some (aI v1), some (aI 0), some (aI 0)]) (stk' := []) (σ' := σ) (g := []) (by decide +kernel) rfl rfl ?_
  refine aw_forget (L' := [some (aR 12 0 0), some (aI v1), some (aI 0), some (aI 0)]) (lsub_s (lsub_s (lsub_s (lsub_s (lsub_0))))) ?_
  exact ok_X12_allOf_4 FU v1 0 0 σ _ h
def f_X12_isBell_35   (s0 : Int32) (σ : Sg) : Option (Int32 × Sg) :=
  grd (bz s0) <| some (s0, σ)
set_option maxRecDepth 100000 in
set_option maxHeartbeats 4000000 in
theorem ok_X12_isBell_35 {κ : Kd}    : ∀ (s0 : Int32) (σ : Sg) (q : (Int32 × Sg)), f_X12_isBell_35 s0 σ = some q → AW κ pX12_isBell 1 (some (aI q.1), q.2) 35 [none] [aI s0] σ := by
  intro s0 σ q h
  unfold f_X12_isBell_35 at h
  obtain ⟨hg, h⟩ := grd_some h
  cases h
  exact aw_zret rfl hg (by decide +kernel)
def f_X12_isBell_30    (σ : Sg) : Option (Int32 × Sg) :=
  f_X12_isBell_35 1 σ
set_option maxRecDepth 100000 in
set_option maxHeartbeats 4000000 in
theorem ok_X12_isBell_30 {κ : Kd}    : ∀  (σ : Sg) (q : (Int32 × Sg)), f_X12_isBell_30  σ = some q → AW κ pX12_isBell 1 (some (aI q.1), q.2) 30 [none] [] σ := by
  intro  σ q h
  unfold f_X12_isBell_30 at h
  refine aw_seq [(.iconst 1, 1, (axI 1))] (pc' := 31) (L' := [none]) (stk' := [aI 1]) (σ' := σ) (g := []) (by decide +kernel) rfl rfl ?_
  refine aw_goto (off := 4) (tgt := 35) (by decide +kernel) (by decide) ?_
  refine aw_forget (L' := [none]) (lsub_n (lsub_0)) ?_
  exact ok_X12_isBell_35 1 σ _ h
def f_X12_isBell  (σ : Sg) : Option (Int32 × Sg) :=
  grd (inb 6 1986 && ((!decide ((24 : Int32) = 0)) && true)) <|
  if 20 ≤ (jrem (σ.1 1 (ix 6)) 24) then (
    f_X12_isBell_30 σ
  ) else (
    grd (inb 6 1986 && ((!decide ((24 : Int32) = 0)) && true)) <|
    if 6 ≤ (jrem (σ.1 1 (ix 6)) 24) then (
      f_X12_isBell_35 0 σ
    ) else (
      f_X12_isBell_30 σ
    )
  )
set_option maxRecDepth 100000 in
set_option maxHeartbeats 4000000 in
theorem ok_X12_isBell {κ : Kd}  {σ : Sg} {q : (Int32 × Sg)} (h : f_X12_isBell σ = some q) : AMet κ pX12_isBell 1 [aR 12 0 0] σ (some (aI q.1), q.2) := by
  unfold f_X12_isBell at h
  refine amet_of okp_X12_isBell [(false, aR 12 0 0)] (List.forall_mem_cons.mpr ⟨rfl, (fun _ hn => absurd hn List.not_mem_nil)⟩) 0 rfl ?_
  show AW κ pX12_isBell 1 (some (aI q.1), q.2) 0 [some (aR 12 0 0)] [] σ
  obtain ⟨hg, h⟩ := grd_some h
  refine aw_seq [(.aload_n 0, 1, ax0), (.getfield 7, 3, (axF 12 0 (2, 1, 13, some 1986))), (.bipush 6, 2, (axI 6)), (.iaload, 1, ax0), (.bipush 24, 2, (axI 24)), (.irem, 1, ax0), (.bipush 20, 2, (axI 20))] (pc' := 12) (L' := [some (aR 12 0 0)]) (stk' := [aI 20, aI (jrem (σ.1 1 (ix 6)) 24)]) (σ' := σ) (g := [inb 6 1986, (!decide ((24 : Int32) = 0))]) (by decide +kernel) rfl hg ?_
  refine aw_icmp_ge (off := 18) (tgt := 30) (by decide +kernel) (by decide) (fun c1 => ?_) (fun c1 => ?_)
  · rw [if_pos c1] at h
    refine aw_forget (L' := [none]) (lsub_n (lsub_0)) ?_
    exact ok_X12_isBell_30 σ _ h
  · rw [if_neg c1] at h
    obtain ⟨hg, h⟩ := grd_some h
    refine aw_seq [(.aload_n 0, 1, ax0), (.getfield 7, 3, (axF 12 0 (2, 1, 13, some 1986))), (.bipush 6, 2, (axI 6)), (.iaload, 1, ax0), (.bipush 24, 2, (axI 24)), (.irem, 1, ax0), (.bipush 6, 2, (axI 6))] (pc' := 27) (L' := [some (aR 12 0 0)]) (stk' := [aI 6, aI (jrem (σ.1 1 (ix 6)) 24)]) (σ' := σ) (g := [inb 6 1986, (!decide ((24 : Int32) = 0))]) (by decide +kernel) rfl hg ?_
    refine aw_icmp_ge (off := 7) (tgt := 34) (by decide +kernel) (by decide) (fun c1 => ?_) (fun c1 => ?_)
    · rw [if_pos c1] at h
      refine aw_seq [(.iconst 0, 1, (axI 0))] (pc' := 35) (L' := [some (aR 12 0 0)]) (stk' := [aI 0]) (σ' := σ) (g := []) (by decide +kernel) rfl rfl ?_
      refine aw_forget (L' := [none]) (lsub_n (lsub_0)) ?_
      exact ok_X12_isBell_35 0 σ _ h
    · rw [if_neg c1] at h
      refine aw_forget (L' := [none]) (lsub_n (lsub_0)) ?_
      exact ok_X12_isBell_30 σ _ h
def f_X12_begin (v1 : Int32) (σ : Sg) : Option Sg :=
  bndV (f_X12_put v1 0 0 σ) fun σ2 =>
  bndV (f_X12_put v1 1 0 σ2) fun σ4 =>
  bnd (f_X12_get v1 4 σ4) fun r7 σ6 =>
  bndV (f_X12_put v1 2 r7 σ6) fun σ9 =>
  some σ9
set_option maxRecDepth 100000 in
set_option maxHeartbeats 4000000 in
theorem ok_X12_begin {κ : Kd} {v1 : Int32} {σ : Sg} {q : Sg} (h : f_X12_begin v1 σ = some q) : AMet κ pX12_begin 2 [aR 12 0 0, aI v1] σ (none, q) := by
  unfold f_X12_begin at h
  refine amet_of okp_X12_begin [(false, aR 12 0 0), (false, aI v1)] (List.forall_mem_cons.mpr ⟨rfl, List.forall_mem_cons.mpr ⟨rfl, (fun _ hn => absurd hn List.not_mem_nil)⟩⟩) 0 rfl ?_
  show AW κ pX12_begin 2 (none, q) 0 [some (aR 12 0 0), some (aI v1)] [] σ
  refine aw_seq [(.aload_n 0, 1, ax0), (.iload_n 1, 1, ax0), (.iconst 0, 1, (axI 0)), (.iconst 0, 1, (axI 0))] (pc' := 4) (L' := [some (aR 12 0 0), some (aI v1)]) (stk' := [aI 0, aI 0, aI v1, aR 12 0 0]) (σ' := σ) (g := []) (by decide +kernel) rfl rfl ?_
  obtain ⟨σ2, h1, h⟩ := bndV_some h
  refine aw_cV (P' := pX12_put) (idx := 80) (d' := 1) (c := 12) (n := 0) (k := 0) [aI v1, aI 0, aI 0] [] (ov := none) (stk2 := []) okp_X12_put (by decide +kernel) ml_RX12_80 vok_X12_put (by decide) rfl nar_X12_put (by decide) rfl (Nat.le_of_ble_eq_true rfl) (ok_X12_put h1) rfl ?_
  refine aw_seq [(.aload_n 0, 1, ax0), (.iload_n 1, 1, ax0), (.iconst 1, 1, (axI 1)), (.iconst 0, 1, (axI 0))] (pc' := 11) (L' := [some (aR 12 0 0), some (aI v1)]) (stk' := [aI 0, aI 1, aI v1, aR 12 0 0]) (σ' := σ2) (g := []) (by decide +kernel) rfl rfl ?_
  obtain ⟨σ4, h3, h⟩ := bndV_some h
  refine aw_cV (P' := pX12_put) (idx := 80) (d' := 1) (c := 12) (n := 0) (k := 0) [aI v1, aI 1, aI 0] [] (ov := none) (stk2 := []) okp_X12_put (by decide +kernel) ml_RX12_80 vok_X12_put (by decide) rfl nar_X12_put (by decide) rfl (Nat.le_of_ble_eq_true rfl) (ok_X12_put h3) rfl ?_
  refine aw_seq [(.aload_n 0, 1, ax0), (.iload_n 1, 1, ax0), (.iconst 2, 1, (axI 2)), (.aload_n 0, 1, ax0), (.iload_n 1, 1, ax0), (.iconst 4, 1, (axI 4))] (pc' := 20) (L' := [some (aR 12 0 0), some (aI v1)]) (stk' := [aI 4, aI v1, aR 12 0 0, aI 2, aI v1, aR 12 0 0]) (σ' := σ4) (g := []) (by decide +kernel) rfl rfl ?_
  obtain ⟨r7, σ6, h5, h⟩ := bnd_some h
  refine aw_cV (P' := pX12_get) (idx := 77) (d' := 1) (c := 12) (n := 0) (k := 0) [aI v1, aI 4] [aI 2, aI v1, aR 12 0 0] (ov := (some (aI r7))) (stk2 := [aI r7, aI 2, aI v1, aR 12 0 0]) okp_X12_get (by decide +kernel) ml_RX12_77 vok_X12_get (by decide) rfl nar_X12_get (by decide) rfl (Nat.le_of_ble_eq_true rfl) (ok_X12_get h5) rfl ?_
  obtain ⟨σ9, h8, h⟩ := bndV_some h
  refine aw_cV (P' := pX12_put) (idx := 80) (d' := 1) (c := 12) (n := 0) (k := 0) [aI v1, aI 2, aI r7] [] (ov := none) (stk2 := []) okp_X12_put (by decide +kernel) ml_RX12_80 vok_X12_put (by decide) rfl nar_X12_put (by decide) rfl (Nat.le_of_ble_eq_true rfl) (ok_X12_put h8) rfl ?_
  cases h
  exact aw_vret rfl (by decide +kernel)
def f_X12_house_32    (σ : Sg) : Option (Int32 × Sg) :=
  some ((-1), σ)
set_option maxRecDepth 100000 in
set_option maxHeartbeats 4000000 in
theorem ok_X12_house_32 {κ : Kd}    : ∀  (σ : Sg) (q : (Int32 × Sg)), f_X12_house_32  σ = some q → AW κ pX12_house 3 (some (aI q.1), q.2) 32 [none, none, none, none] [] σ := by
  intro  σ q h
  unfold f_X12_house_32 at h
  refine aw_seq [(.iconst (-1), 1, (axI (-1)))] (pc' := 33) (L' := [none, none, none, none]) (stk' := [aI (-1)]) (σ' := σ) (g := []) (by decide +kernel) rfl rfl ?_
  cases h
  exact aw_iret rfl (by decide +kernel)
def f_X12_house (v1 : Int32) (v2 : Int32) (σ : Sg) : Option (Int32 × Sg) :=
  bnd (f_X12_isIn v1 0 9 σ) fun r3 σ2 =>
  if r3 = 0 then (
    f_X12_house_32 σ2
  ) else (
    bnd (f_X12_isIn v2 0 9999 σ2) fun r6 σ5 =>
    if r6 = 0 then (
      f_X12_house_32 σ5
    ) else (
      grd (inb 0 1986 && true) <|
      if (σ5.1 1 (ix 0)) = 8 then (
        f_X12_house_32 σ5
      ) else (
        grd (inb 0 1986 && true) <|
        bndV (f_X12_put (σ5.1 1 (ix 0)) 3 v1 σ5) fun σ8 =>
        bndV (f_X12_put (σ5.1 1 (ix 0)) 4 v2 σ8) fun σ10 =>
        bndV (f_X12_begin (σ5.1 1 (ix 0)) σ10) fun σ12 =>
        grd (inb 0 1986 && (inb 0 1986 && true)) <|
        ltσ (wI σ12 1 (ix 0) ((σ12.1 1 (ix 0)) + 1)) fun σ13 =>
        some ((σ5.1 1 (ix 0)), σ13)
      )
    )
  )
set_option maxRecDepth 100000 in
set_option maxHeartbeats 4000000 in
theorem ok_X12_house {κ : Kd} {v1 : Int32} {v2 : Int32} {σ : Sg} {q : (Int32 × Sg)} (h : f_X12_house v1 v2 σ = some q) : AMet κ pX12_house 3 [aR 12 0 0, aI v1, aI v2] σ (some (aI q.1), q.2) := by
  unfold f_X12_house at h
  refine amet_of okp_X12_house [(false, aR 12 0 0), (false, aI v1), (false, aI v2)] (List.forall_mem_cons.mpr ⟨rfl, List.forall_mem_cons.mpr ⟨rfl, List.forall_mem_cons.mpr ⟨rfl, (fun _ hn => absurd hn List.not_mem_nil)⟩⟩⟩) 1 rfl ?_
  show AW κ pX12_house 3 (some (aI q.1), q.2) 0 [some (aR 12 0 0), some (aI v1), some (aI v2), none] [] σ
  refine aw_seq [(.iload_n 1, 1, ax0), (.iconst 0, 1, (axI 0)), (.bipush 9, 2, (axI 9))] (pc' := 4) (L' := [some (aR 12 0 0), some (aI v1), some (aI v2), none]) (stk' := [aI 9, aI 0, aI v1]) (σ' := σ) (g := []) (by decide +kernel) rfl rfl ?_
  obtain ⟨r3, σ2, h1, h⟩ := bnd_some h
  refine aw_cS (P' := pX12_isIn) (idx := 69) (d' := 1) [aI v1, aI 0, aI 9] [] (ov := (some (aI r3))) (stk2 := [aI r3]) okp_X12_isIn (by decide +kernel) ml_RX12_69 tok_X12_isIn nar_X12_isIn (by decide) rfl (Nat.le_of_ble_eq_true rfl) (ok_X12_isIn h1) rfl ?_
  refine aw_if_eq (off := 25) (tgt := 32) (by decide +kernel) (by decide) (fun c1 => ?_) (fun c1 => ?_)
  · rw [if_pos c1] at h
    refine aw_forget (L' := [none, none, none, none]) (lsub_n (lsub_n (lsub_n (lsub_n (lsub_0))))) ?_
    exact ok_X12_house_32 σ2 _ h
  · rw [if_neg c1] at h
    refine aw_seq [(.iload_n 2, 1, ax0), (.iconst 0, 1, (axI 0)), (.sipush 9999, 3, (axI 9999))] (pc' := 15) (L' := [some (aR 12 0 0), some (aI v1), some (aI v2), none]) (stk' := [aI 9999, aI 0, aI v2]) (σ' := σ2) (g := []) (by decide +kernel) rfl rfl ?_
    obtain ⟨r6, σ5, h4, h⟩ := bnd_some h
    refine aw_cS (P' := pX12_isIn) (idx := 69) (d' := 1) [aI v2, aI 0, aI 9999] [] (ov := (some (aI r6))) (stk2 := [aI r6]) okp_X12_isIn (by decide +kernel) ml_RX12_69 tok_X12_isIn nar_X12_isIn (by decide) rfl (Nat.le_of_ble_eq_true rfl) (ok_X12_isIn h4) rfl ?_
    refine aw_if_eq (off := 14) (tgt := 32) (by decide +kernel) (by decide) (fun c1 => ?_) (fun c1 => ?_)
    · rw [if_pos c1] at h
      refine aw_forget (L' := [none, none, none, none]) (lsub_n (lsub_n (lsub_n (lsub_n (lsub_0))))) ?_
      exact ok_X12_house_32 σ5 _ h
    · rw [if_neg c1] at h
      obtain ⟨hg, h⟩ := grd_some h
      refine aw_seq [(.aload_n 0, 1, ax0), (.getfield 7, 3, (axF 12 0 (2, 1, 13, some 1986))), (.iconst 0, 1, (axI 0)), (.iaload, 1, ax0), (.bipush 8, 2, (axI 8))] (pc' := 29) (L' := [some (aR 12 0 0), some (aI v1), some (aI v2), none]) (stk' := [aI 8, aI (σ5.1 1 (ix 0))]) (σ' := σ5) (g := [inb 0 1986]) (by decide +kernel) rfl hg ?_
      refine aw_icmp_ne (off := 5) (tgt := 34) (by decide +kernel) (by decide) (fun c1 => ?_) (fun c1 => ?_)
      · rw [if_neg c1] at h
        obtain ⟨hg, h⟩ := grd_some h
        refine aw_seq [(.aload_n 0, 1, ax0), (.getfield 7, 3, (axF 12 0 (2, 1, 13, some 1986))), (.iconst 0, 1, (axI 0)), (.iaload, 1, ax0), (.istore_n 3, 1, ax0), (.aload_n 0, 1, ax0), (.iload_n 3, 1, ax0), (.iconst 3, 1, (axI 3)), (.iload_n 1, 1, ax0)] (pc' := 45) (L' := [some (aR 12 0 0), some (aI v1), some (aI v2), some (aI (σ5.1 1 (ix 0)))]) (stk' := [aI v1, aI 3, aI (σ5.1 1 (ix 0)), aR 12 0 0]) (σ' := σ5) (g := [inb 0 1986]) (by decide +kernel) rfl hg ?_
        obtain ⟨σ8, h7, h⟩ := bndV_some h
        refine aw_cV (P' := pX12_put) (idx := 80) (d' := 1) (c := 12) (n := 0) (k := 0) [aI (σ5.1 1 (ix 0)), aI 3, aI v1] [] (ov := none) (stk2 := []) okp_X12_put (by decide +kernel) ml_RX12_80 vok_X12_put (by decide) rfl nar_X12_put (by decide) rfl (Nat.le_of_ble_eq_true rfl) (ok_X12_put h7) rfl ?_
        refine aw_seq [(.aload_n 0, 1, ax0), (.iload_n 3, 1, ax0), (.iconst 4, 1, (axI 4)), (.iload_n 2, 1, ax0)] (pc' := 52) (L' := [some (aR 12 0 0), some (aI v1), some (aI v2), some (aI (σ5.1 1 (ix 0)))]) (stk' := [aI v2, aI 4, aI (σ5.1 1 (ix 0)), aR 12 0 0]) (σ' := σ8) (g := []) (by decide +kernel) rfl rfl ?_
        obtain ⟨σ10, h9, h⟩ := bndV_some h
        refine aw_cV (P' := pX12_put) (idx := 80) (d' := 1) (c := 12) (n := 0) (k := 0) [aI (σ5.1 1 (ix 0)), aI 4, aI v2] [] (ov := none) (stk2 := []) okp_X12_put (by decide +kernel) ml_RX12_80 vok_X12_put (by decide) rfl nar_X12_put (by decide) rfl (Nat.le_of_ble_eq_true rfl) (ok_X12_put h9) rfl ?_
        refine aw_seq [(.aload_n 0, 1, ax0), (.iload_n 3, 1, ax0)] (pc' := 57) (L' := [some (aR 12 0 0), some (aI v1), some (aI v2), some (aI (σ5.1 1 (ix 0)))]) (stk' := [aI (σ5.1 1 (ix 0)), aR 12 0 0]) (σ' := σ10) (g := []) (by decide +kernel) rfl rfl ?_
        obtain ⟨σ12, h11, h⟩ := bndV_some h
        refine aw_cV (P' := pX12_begin) (idx := 84) (d' := 2) (c := 12) (n := 0) (k := 0) [aI (σ5.1 1 (ix 0))] [] (ov := none) (stk2 := []) okp_X12_begin (by decide +kernel) ml_RX12_84 vok_X12_begin (by decide) rfl nar_X12_begin (by decide) rfl (Nat.le_of_ble_eq_true rfl) (ok_X12_begin h11) rfl ?_
        obtain ⟨hg, h⟩ := grd_some h
        obtain ⟨σ13, e14, h⟩ := ltσ_some h
        refine aw_seq [(.aload_n 0, 1, ax0), (.getfield 7, 3, (axF 12 0 (2, 1, 13, some 1986))), (.iconst 0, 1, (axI 0)), (.dup2, 1, ax0), (.iaload, 1, ax0), (.iconst 1, 1, (axI 1)), (.iadd, 1, ax0), (.iastore, 1, ax0)] (pc' := 70) (L' := [some (aR 12 0 0), some (aI v1), some (aI v2), some (aI (σ5.1 1 (ix 0)))]) (stk' := []) (σ' := σ13) (g := [inb 0 1986, inb 0 1986]) (by decide +kernel) (by rw [e14]; rfl) hg ?_
        refine aw_seq [(.iload_n 3, 1, ax0)] (pc' := 71) (L' := [some (aR 12 0 0), some (aI v1), some (aI v2), some (aI (σ5.1 1 (ix 0)))]) (stk' := [aI (σ5.1 1 (ix 0))]) (σ' := σ13) (g := []) (by decide +kernel) rfl rfl ?_
        cases h
        exact aw_iret rfl (by decide +kernel)
      · rw [if_pos c1] at h
        refine aw_forget (L' := [none, none, none, none]) (lsub_n (lsub_n (lsub_n (lsub_n (lsub_0))))) ?_
        exact ok_X12_house_32 σ5 _ h
def f_X12_street_31    (σ : Sg) : Option (Int32 × Sg) :=
  some (0, σ)
set_option maxRecDepth 100000 in
set_option maxHeartbeats 4000000 in
theorem ok_X12_street_31 {κ : Kd}    : ∀  (σ : Sg) (q : (Int32 × Sg)), f_X12_street_31  σ = some q → AW κ pX12_street 3 (some (aI q.1), q.2) 31 [none, none, none, none] [] σ := by
  intro  σ q h
  unfold f_X12_street_31 at h
  refine aw_seq [(.iconst 0, 1, (axI 0))] (pc' := 32) (L' := [none, none, none, none]) (stk' := [aI 0]) (σ' := σ) (g := []) (by decide +kernel) rfl rfl ?_
  cases h
  exact aw_zret rfl bz_0 (by decide +kernel)
def f_X12_street (v1 : Int32) (v2 : Int32) (v3 : Int32) (σ : Sg) : Option (Int32 × Sg) :=
  bnd (f_X12_isHouse v1 σ) fun r3 σ2 =>
  if r3 = 0 then (
    f_X12_street_31 σ2
  ) else (
    bnd (f_X12_isHouse v2 σ2) fun r6 σ5 =>
    if r6 = 0 then (
      f_X12_street_31 σ5
    ) else (
      if v1 = v2 then (
        f_X12_street_31 σ5
      ) else (
        bnd (f_X12_isIn v3 0 99 σ5) fun r9 σ8 =>
        if r9 = 0 then (
          f_X12_street_31 σ8
        ) else (
          grd (inb ((50 + (8 * v1)) + v2) 1986 && true) <|
          ltσ (wI σ8 1 (ix ((50 + (8 * v1)) + v2)) v3) fun σ10 =>
          grd (inb ((50 + (8 * v2)) + v1) 1986 && true) <|
          ltσ (wI σ10 1 (ix ((50 + (8 * v2)) + v1)) v3) fun σ12 =>
          some (1, σ12)
        )
      )
    )
  )
set_option maxRecDepth 100000 in
set_option maxHeartbeats 4000000 in
theorem ok_X12_street {κ : Kd} {v1 : Int32} {v2 : Int32} {v3 : Int32} {σ : Sg} {q : (Int32 × Sg)} (h : f_X12_street v1 v2 v3 σ = some q) : AMet κ pX12_street 3 [aR 12 0 0, aI v1, aI v2, aI v3] σ (some (aI q.1), q.2) := by
  unfold f_X12_street at h
  refine amet_of okp_X12_street [(false, aR 12 0 0), (false, aI v1), (false, aI v2), (false, aI v3)] (List.forall_mem_cons.mpr ⟨rfl, List.forall_mem_cons.mpr ⟨rfl, List.forall_mem_cons.mpr ⟨rfl, List.forall_mem_cons.mpr ⟨rfl, (fun _ hn => absurd hn List.not_mem_nil)⟩⟩⟩⟩) 0 rfl ?_
  show AW κ pX12_street 3 (some (aI q.1), q.2) 0 [some (aR 12 0 0), some (aI v1), some (aI v2), some (aI v3)] [] σ
  refine aw_seq [(.aload_n 0, 1, ax0), (.iload_n 1, 1, ax0)] (pc' := 2) (L' := [some (aR 12 0 0), some (aI v1), some (aI v2), some (aI v3)]) (stk' := [aI v1, aR 12 0 0]) (σ' := σ) (g := []) (by decide +kernel) rfl rfl ?_
  obtain ⟨r3, σ2, h1, h⟩ := bnd_some h
  refine aw_cV (P' := pX12_isHouse) (idx := 88) (d' := 2) (c := 12) (n := 0) (k := 0) [aI v1] [] (ov := (some (aI r3))) (stk2 := [aI r3]) okp_X12_isHouse (by decide +kernel) ml_RX12_88 vok_X12_isHouse (by decide) rfl nar_X12_isHouse (by decide) rfl (Nat.le_of_ble_eq_true rfl) (ok_X12_isHouse h1) rfl ?_
  refine aw_if_eq (off := 26) (tgt := 31) (by decide +kernel) (by decide) (fun c1 => ?_) (fun c1 => ?_)
  · rw [if_pos c1] at h
    refine aw_forget (L' := [none, none, none, none]) (lsub_n (lsub_n (lsub_n (lsub_n (lsub_0))))) ?_
    exact ok_X12_street_31 σ2 _ h
  · rw [if_neg c1] at h
    refine aw_seq [(.aload_n 0, 1, ax0), (.iload_n 2, 1, ax0)] (pc' := 10) (L' := [some (aR 12 0 0), some (aI v1), some (aI v2), some (aI v3)]) (stk' := [aI v2, aR 12 0 0]) (σ' := σ2) (g := []) (by decide +kernel) rfl rfl ?_
    obtain ⟨r6, σ5, h4, h⟩ := bnd_some h
    refine aw_cV (P' := pX12_isHouse) (idx := 88) (d' := 2) (c := 12) (n := 0) (k := 0) [aI v2] [] (ov := (some (aI r6))) (stk2 := [aI r6]) okp_X12_isHouse (by decide +kernel) ml_RX12_88 vok_X12_isHouse (by decide) rfl nar_X12_isHouse (by decide) rfl (Nat.le_of_ble_eq_true rfl) (ok_X12_isHouse h4) rfl ?_
    refine aw_if_eq (off := 18) (tgt := 31) (by decide +kernel) (by decide) (fun c1 => ?_) (fun c1 => ?_)
    · rw [if_pos c1] at h
      refine aw_forget (L' := [none, none, none, none]) (lsub_n (lsub_n (lsub_n (lsub_n (lsub_0))))) ?_
      exact ok_X12_street_31 σ5 _ h
    · rw [if_neg c1] at h
      refine aw_seq [(.iload_n 1, 1, ax0), (.iload_n 2, 1, ax0)] (pc' := 18) (L' := [some (aR 12 0 0), some (aI v1), some (aI v2), some (aI v3)]) (stk' := [aI v2, aI v1]) (σ' := σ5) (g := []) (by decide +kernel) rfl rfl ?_
      refine aw_icmp_eq (off := 13) (tgt := 31) (by decide +kernel) (by decide) (fun c1 => ?_) (fun c1 => ?_)
      · rw [if_pos c1] at h
        refine aw_forget (L' := [none, none, none, none]) (lsub_n (lsub_n (lsub_n (lsub_n (lsub_0))))) ?_
        exact ok_X12_street_31 σ5 _ h
      · rw [if_neg c1] at h
        refine aw_seq [(.iload_n 3, 1, ax0), (.iconst 0, 1, (axI 0)), (.bipush 99, 2, (axI 99))] (pc' := 25) (L' := [some (aR 12 0 0), some (aI v1), some (aI v2), some (aI v3)]) (stk' := [aI 99, aI 0, aI v3]) (σ' := σ5) (g := []) (by decide +kernel) rfl rfl ?_
        obtain ⟨r9, σ8, h7, h⟩ := bnd_some h
        refine aw_cS (P' := pX12_isIn) (idx := 69) (d' := 1) [aI v3, aI 0, aI 99] [] (ov := (some (aI r9))) (stk2 := [aI r9]) okp_X12_isIn (by decide +kernel) ml_RX12_69 tok_X12_isIn nar_X12_isIn (by decide) rfl (Nat.le_of_ble_eq_true rfl) (ok_X12_isIn h7) rfl ?_
        refine aw_if_ne (off := 5) (tgt := 33) (by decide +kernel) (by decide) (fun c1 => ?_) (fun c1 => ?_)
        · rw [if_neg c1] at h
          obtain ⟨hg, h⟩ := grd_some h
          obtain ⟨σ10, e11, h⟩ := ltσ_some h
          refine aw_seq [(.aload_n 0, 1, ax0), (.getfield 7, 3, (axF 12 0 (2, 1, 13, some 1986))), (.bipush 50, 2, (axI 50)), (.bipush 8, 2, (axI 8)), (.iload_n 1, 1, ax0), (.imul, 1, ax0), (.iadd, 1, ax0), (.iload_n 2, 1, ax0), (.iadd, 1, ax0), (.iload_n 3, 1, ax0), (.iastore, 1, ax0)] (pc' := 48) (L' := [some (aR 12 0 0), some (aI v1), some (aI v2), some (aI v3)]) (stk' := []) (σ' := σ10) (g := [inb ((50 + (8 * v1)) + v2) 1986]) (by decide +kernel) (by rw [e11]; rfl) hg ?_
          obtain ⟨hg, h⟩ := grd_some h
          obtain ⟨σ12, e13, h⟩ := ltσ_some h
          refine aw_seq [(.aload_n 0, 1, ax0), (.getfield 7, 3, (axF 12 0 (2, 1, 13, some 1986))), (.bipush 50, 2, (axI 50)), (.bipush 8, 2, (axI 8)), (.iload_n 2, 1, ax0), (.imul, 1, ax0), (.iadd, 1, ax0), (.iload_n 1, 1, ax0), (.iadd, 1, ax0), (.iload_n 3, 1, ax0), (.iastore, 1, ax0)] (pc' := 63) (L' := [some (aR 12 0 0), some (aI v1), some (aI v2), some (aI v3)]) (stk' := []) (σ' := σ12) (g := [inb ((50 + (8 * v2)) + v1) 1986]) (by decide +kernel) (by rw [e13]; rfl) hg ?_
          refine aw_seq [(.iconst 1, 1, (axI 1))] (pc' := 64) (L' := [some (aR 12 0 0), some (aI v1), some (aI v2), some (aI v3)]) (stk' := [aI 1]) (σ' := σ12) (g := []) (by decide +kernel) rfl rfl ?_
          cases h
          exact aw_zret rfl bz_1 (by decide +kernel)
        · rw [if_pos c1] at h
          refine aw_forget (L' := [none, none, none, none]) (lsub_n (lsub_n (lsub_n (lsub_n (lsub_0))))) ?_
          exact ok_X12_street_31 σ8 _ h
def f_X12_four_3   : Nat → Int32 → Int32 → Sg → Option Sg
  | 0, _, _, _ => none
  | fu + 1, v1, v2, σ =>
    if v2 < 0 then (
      some σ
    ) else (
      grd (inb (σ.1 0 4) 300 && true) <|
      ltσ (wI σ 4 (ix (σ.1 0 4)) ((shr v1 v2) &&& 255)) fun σ1 =>
      ltσ (wI σ1 0 4 ((σ1.1 0 4) + 1)) fun σ3 =>
      (f_X12_four_3 fu) v1 (v2 + (-8)) σ3
    )
set_option maxRecDepth 100000 in
set_option maxHeartbeats 4000000 in
theorem ok_X12_four_3 {κ : Kd}    : ∀ (fu : Nat) (v1 : Int32) (v2 : Int32) (σ : Sg) (q : Sg), f_X12_four_3 fu v1 v2 σ = some q → AW κ pX12_four 1 (none, q) 3 [some (aR 12 0 0), some (aI v1), some (aI v2)] [] σ := by
  intro fu
  induction fu with
  | zero =>
    intro v1 v2 σ q h
    unfold f_X12_four_3 at h
    cases h
  | succ fu ih =>
    intro v1 v2 σ q h
    unfold f_X12_four_3 at h
    refine aw_seq [(.iload_n 2, 1, ax0)] (pc' := 4) (L' := [some (aR 12 0 0), some (aI v1), some (aI v2)]) (stk' := [aI v2]) (σ' := σ) (g := []) (by decide +kernel) rfl rfl ?_
    refine aw_if_lt (off := 35) (tgt := 39) (by decide +kernel) (by decide) (fun c1 => ?_) (fun c1 => ?_)
    · rw [if_pos c1] at h
      cases h
      exact aw_vret rfl (by decide +kernel)
    · rw [if_neg c1] at h
      obtain ⟨hg, h⟩ := grd_some h
      obtain ⟨σ1, e2, h⟩ := ltσ_some h
      refine aw_seq [(.aload_n 0, 1, ax0), (.getfield 19, 3, (axF 12 3 (2, 4, 13, some 300))), (.aload_n 0, 1, ax0), (.getfield 92, 3, (axF 12 4 (0, 0, 0, none))), (.iload_n 1, 1, ax0), (.iload_n 2, 1, ax0), (.ishr, 1, ax0), (.sipush 255, 3, (axI 255)), (.iand, 1, ax0), (.iastore, 1, ax0)] (pc' := 23) (L' := [some (aR 12 0 0), some (aI v1), some (aI v2)]) (stk' := []) (σ' := σ1) (g := [inb (σ.1 0 4) 300]) (by decide +kernel) (by rw [e2]; rfl) hg ?_
      obtain ⟨σ3, e4, h⟩ := ltσ_some h
      refine aw_seq [(.aload_n 0, 1, ax0), (.dup, 1, ax0), (.getfield 92, 3, (axF 12 4 (0, 0, 0, none))), (.iconst 1, 1, (axI 1)), (.iadd, 1, ax0), (.putfield 92, 3, (axF 12 4 (0, 0, 0, none)))] (pc' := 33) (L' := [some (aR 12 0 0), some (aI v1), some (aI v2)]) (stk' := []) (σ' := σ3) (g := []) (by decide +kernel) (by rw [e4]; rfl) rfl ?_
      refine aw_seq [(.iinc 2 (-8), 3, (axI (-8)))] (pc' := 36) (L' := [some (aR 12 0 0), some (aI v1), some (aI (v2 + (-8)))]) (stk' := []) (σ' := σ3) (g := []) (by decide +kernel) rfl rfl ?_
      refine aw_goto (off := (-33)) (tgt := 3) (by decide +kernel) (by decide) ?_
      refine aw_forget (L' := [some (aR 12 0 0), some (aI v1), some (aI (v2 + (-8)))]) (lsub_s (lsub_s (lsub_s (lsub_0)))) ?_
      exact ih v1 (v2 + (-8)) σ3 _ h
def f_X12_four (v1 : Int32) (σ : Sg) : Option Sg :=
  f_X12_four_3 FU v1 24 σ
set_option maxRecDepth 100000 in
set_option maxHeartbeats 4000000 in
theorem ok_X12_four {κ : Kd} {v1 : Int32} {σ : Sg} {q : Sg} (h : f_X12_four v1 σ = some q) : AMet κ pX12_four 1 [aR 12 0 0, aI v1] σ (none, q) := by
  unfold f_X12_four at h
  refine amet_of okp_X12_four [(false, aR 12 0 0), (false, aI v1)] (List.forall_mem_cons.mpr ⟨rfl, List.forall_mem_cons.mpr ⟨rfl, (fun _ hn => absurd hn List.not_mem_nil)⟩⟩) 1 rfl ?_
  show AW κ pX12_four 1 (none, q) 0 [some (aR 12 0 0), some (aI v1), none] [] σ
  refine aw_seq [(.bipush 24, 2, (axI 24)), (.istore_n 2, 1, ax0)] (pc' := 3) (L' := [some (aR 12 0 0), some (aI v1), some (aI 24)]) (stk' := []) (σ' := σ) (g := []) (by decide +kernel) rfl rfl ?_
  refine aw_forget (L' := [some (aR 12 0 0), some (aI v1), some (aI 24)]) (lsub_s (lsub_s (lsub_s (lsub_0)))) ?_
  exact ok_X12_four_3 FU v1 24 σ _ h
def f_X12_feed (v1 : Int32) (v2 : Int32) (v3 : Int32) (v4 : Int32) (v5 : Int32) (σ : Sg) : Option (Int32 × Sg) :=
  if ((σ.1 0 4) + 20) ≤ 300 then (
    bndV (f_X12_four v1 σ) fun σ2 =>
    bndV (f_X12_four v2 σ2) fun σ4 =>
    bndV (f_X12_four v3 σ4) fun σ6 =>
    bndV (f_X12_four v4 σ6) fun σ8 =>
    bndV (f_X12_four v5 σ8) fun σ10 =>
    some ((σ10.1 0 4), σ10)
  ) else (
    some ((-1), σ)
  )
set_option maxRecDepth 100000 in
set_option maxHeartbeats 4000000 in
theorem ok_X12_feed {κ : Kd} {v1 : Int32} {v2 : Int32} {v3 : Int32} {v4 : Int32} {v5 : Int32} {σ : Sg} {q : (Int32 × Sg)} (h : f_X12_feed v1 v2 v3 v4 v5 σ = some q) : AMet κ pX12_feed 2 [aR 12 0 0, aI v1, aI v2, aI v3, aI v4, aI v5] σ (some (aI q.1), q.2) := by
  unfold f_X12_feed at h
  refine amet_of okp_X12_feed [(false, aR 12 0 0), (false, aI v1), (false, aI v2), (false, aI v3), (false, aI v4), (false, aI v5)] (List.forall_mem_cons.mpr ⟨rfl, List.forall_mem_cons.mpr ⟨rfl, List.forall_mem_cons.mpr ⟨rfl, List.forall_mem_cons.mpr ⟨rfl, List.forall_mem_cons.mpr ⟨rfl, List.forall_mem_cons.mpr ⟨rfl, (fun _ hn => absurd hn List.not_mem_nil)⟩⟩⟩⟩⟩⟩) 0 rfl ?_
  show AW κ pX12_feed 2 (some (aI q.1), q.2) 0 [some (aR 12 0 0), some (aI v1), some (aI v2), some (aI v3), some (aI v4), some (aI v5)] [] σ
  refine aw_seq [(.aload_n 0, 1, ax0), (.getfield 92, 3, (axF 12 4 (0, 0, 0, none))), (.bipush 20, 2, (axI 20)), (.iadd, 1, ax0), (.sipush 300, 3, (axI 300))] (pc' := 10) (L' := [some (aR 12 0 0), some (aI v1), some (aI v2), some (aI v3), some (aI v4), some (aI v5)]) (stk' := [aI 300, aI ((σ.1 0 4) + 20)]) (σ' := σ) (g := []) (by decide +kernel) rfl rfl ?_
  refine aw_icmp_le (off := 5) (tgt := 15) (by decide +kernel) (by decide) (fun c1 => ?_) (fun c1 => ?_)
  · rw [if_pos c1] at h
    refine aw_seq [(.aload_n 0, 1, ax0), (.iload_n 1, 1, ax0)] (pc' := 17) (L' := [some (aR 12 0 0), some (aI v1), some (aI v2), some (aI v3), some (aI v4), some (aI v5)]) (stk' := [aI v1, aR 12 0 0]) (σ' := σ) (g := []) (by decide +kernel) rfl rfl ?_
    obtain ⟨σ2, h1, h⟩ := bndV_some h
    refine aw_cV (P' := pX12_four) (idx := 95) (d' := 1) (c := 12) (n := 0) (k := 0) [aI v1] [] (ov := none) (stk2 := []) okp_X12_four (by decide +kernel) ml_RX12_95 vok_X12_four (by decide) rfl nar_X12_four (by decide) rfl (Nat.le_of_ble_eq_true rfl) (ok_X12_four h1) rfl ?_
    refine aw_seq [(.aload_n 0, 1, ax0), (.iload_n 2, 1, ax0)] (pc' := 22) (L' := [some (aR 12 0 0), some (aI v1), some (aI v2), some (aI v3), some (aI v4), some (aI v5)]) (stk' := [aI v2, aR 12 0 0]) (σ' := σ2) (g := []) (by decide +kernel) rfl rfl ?_
    obtain ⟨σ4, h3, h⟩ := bndV_some h
    refine aw_cV (P' := pX12_four) (idx := 95) (d' := 1) (c := 12) (n := 0) (k := 0) [aI v2] [] (ov := none) (stk2 := []) okp_X12_four (by decide +kernel) ml_RX12_95 vok_X12_four (by decide) rfl nar_X12_four (by decide) rfl (Nat.le_of_ble_eq_true rfl) (ok_X12_four h3) rfl ?_
    refine aw_seq [(.aload_n 0, 1, ax0), (.iload_n 3, 1, ax0)] (pc' := 27) (L' := [some (aR 12 0 0), some (aI v1), some (aI v2), some (aI v3), some (aI v4), some (aI v5)]) (stk' := [aI v3, aR 12 0 0]) (σ' := σ4) (g := []) (by decide +kernel) rfl rfl ?_
    obtain ⟨σ6, h5, h⟩ := bndV_some h
    refine aw_cV (P' := pX12_four) (idx := 95) (d' := 1) (c := 12) (n := 0) (k := 0) [aI v3] [] (ov := none) (stk2 := []) okp_X12_four (by decide +kernel) ml_RX12_95 vok_X12_four (by decide) rfl nar_X12_four (by decide) rfl (Nat.le_of_ble_eq_true rfl) (ok_X12_four h5) rfl ?_
    refine aw_seq [(.aload_n 0, 1, ax0), (.iload 4, 2, ax0)] (pc' := 33) (L' := [some (aR 12 0 0), some (aI v1), some (aI v2), some (aI v3), some (aI v4), some (aI v5)]) (stk' := [aI v4, aR 12 0 0]) (σ' := σ6) (g := []) (by decide +kernel) rfl rfl ?_
    obtain ⟨σ8, h7, h⟩ := bndV_some h
    refine aw_cV (P' := pX12_four) (idx := 95) (d' := 1) (c := 12) (n := 0) (k := 0) [aI v4] [] (ov := none) (stk2 := []) okp_X12_four (by decide +kernel) ml_RX12_95 vok_X12_four (by decide) rfl nar_X12_four (by decide) rfl (Nat.le_of_ble_eq_true rfl) (ok_X12_four h7) rfl ?_
    refine aw_seq [(.aload_n 0, 1, ax0), (.iload 5, 2, ax0)] (pc' := 39) (L' := [some (aR 12 0 0), some (aI v1), some (aI v2), some (aI v3), some (aI v4), some (aI v5)]) (stk' := [aI v5, aR 12 0 0]) (σ' := σ8) (g := []) (by decide +kernel) rfl rfl ?_
    obtain ⟨σ10, h9, h⟩ := bndV_some h
    refine aw_cV (P' := pX12_four) (idx := 95) (d' := 1) (c := 12) (n := 0) (k := 0) [aI v5] [] (ov := none) (stk2 := []) okp_X12_four (by decide +kernel) ml_RX12_95 vok_X12_four (by decide) rfl nar_X12_four (by decide) rfl (Nat.le_of_ble_eq_true rfl) (ok_X12_four h9) rfl ?_
    refine aw_seq [(.aload_n 0, 1, ax0), (.getfield 92, 3, (axF 12 4 (0, 0, 0, none)))] (pc' := 46) (L' := [some (aR 12 0 0), some (aI v1), some (aI v2), some (aI v3), some (aI v4), some (aI v5)]) (stk' := [aI (σ10.1 0 4)]) (σ' := σ10) (g := []) (by decide +kernel) rfl rfl ?_
    cases h
    exact aw_iret rfl (by decide +kernel)
  · rw [if_neg c1] at h
    refine aw_seq [(.iconst (-1), 1, (axI (-1)))] (pc' := 14) (L' := [some (aR 12 0 0), some (aI v1), some (aI v2), some (aI v3), some (aI v4), some (aI v5)]) (stk' := [aI (-1)]) (σ' := σ) (g := []) (by decide +kernel) rfl rfl ?_
    cases h
    exact aw_iret rfl (by decide +kernel)
def f_X12_end (v1 : Int32) (σ : Sg) : Option (Int32 × Sg) :=
  bnd (f_X12_isIn v1 0 (σ.1 0 4) σ) fun r3 σ2 =>
  if r3 = 0 then (
    some ((-1), σ2)
  ) else (
    ltσ (wI σ2 0 4 v1) fun σ4 =>
    some (v1, σ4)
  )
set_option maxRecDepth 100000 in
set_option maxHeartbeats 4000000 in
theorem ok_X12_end {κ : Kd} {v1 : Int32} {σ : Sg} {q : (Int32 × Sg)} (h : f_X12_end v1 σ = some q) : AMet κ pX12_end 2 [aR 12 0 0, aI v1] σ (some (aI q.1), q.2) := by
  unfold f_X12_end at h
  refine amet_of okp_X12_end [(false, aR 12 0 0), (false, aI v1)] (List.forall_mem_cons.mpr ⟨rfl, List.forall_mem_cons.mpr ⟨rfl, (fun _ hn => absurd hn List.not_mem_nil)⟩⟩) 0 rfl ?_
  show AW κ pX12_end 2 (some (aI q.1), q.2) 0 [some (aR 12 0 0), some (aI v1)] [] σ
  refine aw_seq [(.iload_n 1, 1, ax0), (.iconst 0, 1, (axI 0)), (.aload_n 0, 1, ax0), (.getfield 92, 3, (axF 12 4 (0, 0, 0, none)))] (pc' := 6) (L' := [some (aR 12 0 0), some (aI v1)]) (stk' := [aI (σ.1 0 4), aI 0, aI v1]) (σ' := σ) (g := []) (by decide +kernel) rfl rfl ?_
  obtain ⟨r3, σ2, h1, h⟩ := bnd_some h
  refine aw_cS (P' := pX12_isIn) (idx := 69) (d' := 1) [aI v1, aI 0, aI (σ.1 0 4)] [] (ov := (some (aI r3))) (stk2 := [aI r3]) okp_X12_isIn (by decide +kernel) ml_RX12_69 tok_X12_isIn nar_X12_isIn (by decide) rfl (Nat.le_of_ble_eq_true rfl) (ok_X12_isIn h1) rfl ?_
  refine aw_if_ne (off := 5) (tgt := 14) (by decide +kernel) (by decide) (fun c1 => ?_) (fun c1 => ?_)
  · rw [if_neg c1] at h
    obtain ⟨σ4, e5, h⟩ := ltσ_some h
    refine aw_seq [(.aload_n 0, 1, ax0), (.iload_n 1, 1, ax0), (.putfield 92, 3, (axF 12 4 (0, 0, 0, none)))] (pc' := 19) (L' := [some (aR 12 0 0), some (aI v1)]) (stk' := []) (σ' := σ4) (g := []) (by decide +kernel) (by rw [e5]; rfl) rfl ?_
    refine aw_seq [(.iload_n 1, 1, ax0)] (pc' := 20) (L' := [some (aR 12 0 0), some (aI v1)]) (stk' := [aI v1]) (σ' := σ4) (g := []) (by decide +kernel) rfl rfl ?_
    cases h
    exact aw_iret rfl (by decide +kernel)
  · rw [if_pos c1] at h
    refine aw_seq [(.iconst (-1), 1, (axI (-1)))] (pc' := 13) (L' := [some (aR 12 0 0), some (aI v1)]) (stk' := [aI (-1)]) (σ' := σ2) (g := []) (by decide +kernel) rfl rfl ?_
    cases h
    exact aw_iret rfl (by decide +kernel)
def f_X12_byteAt_18   (s0 : Int32) (σ : Sg) : Option (Int32 × Sg) :=
  some (s0, σ)
set_option maxRecDepth 100000 in
set_option maxHeartbeats 4000000 in
theorem ok_X12_byteAt_18 {κ : Kd}    : ∀ (s0 : Int32) (σ : Sg) (q : (Int32 × Sg)), f_X12_byteAt_18 s0 σ = some q → AW κ pX12_byteAt 1 (some (aI q.1), q.2) 18 [none, none] [aI s0] σ := by
  intro s0 σ q h
  unfold f_X12_byteAt_18 at h
  cases h
  exact aw_iret rfl (by decide +kernel)
def f_X12_byteAt (v1 : Int32) (σ : Sg) : Option (Int32 × Sg) :=
  if (σ.1 0 4) ≤ v1 then (
    f_X12_byteAt_18 (-1) σ
  ) else (
    grd (inb v1 300 && true) <|
    f_X12_byteAt_18 (σ.1 4 (ix v1)) σ
  )
set_option maxRecDepth 100000 in
set_option maxHeartbeats 4000000 in
theorem ok_X12_byteAt {κ : Kd} {v1 : Int32} {σ : Sg} {q : (Int32 × Sg)} (h : f_X12_byteAt v1 σ = some q) : AMet κ pX12_byteAt 1 [aR 12 0 0, aI v1] σ (some (aI q.1), q.2) := by
  unfold f_X12_byteAt at h
  refine amet_of okp_X12_byteAt [(false, aR 12 0 0), (false, aI v1)] (List.forall_mem_cons.mpr ⟨rfl, List.forall_mem_cons.mpr ⟨rfl, (fun _ hn => absurd hn List.not_mem_nil)⟩⟩) 0 rfl ?_
  show AW κ pX12_byteAt 1 (some (aI q.1), q.2) 0 [some (aR 12 0 0), some (aI v1)] [] σ
  refine aw_seq [(.iload_n 1, 1, ax0), (.aload_n 0, 1, ax0), (.getfield 92, 3, (axF 12 4 (0, 0, 0, none)))] (pc' := 5) (L' := [some (aR 12 0 0), some (aI v1)]) (stk' := [aI (σ.1 0 4), aI v1]) (σ' := σ) (g := []) (by decide +kernel) rfl rfl ?_
  refine aw_icmp_ge (off := 12) (tgt := 17) (by decide +kernel) (by decide) (fun c1 => ?_) (fun c1 => ?_)
  · rw [if_pos c1] at h
    refine aw_seq [(.iconst (-1), 1, (axI (-1)))] (pc' := 18) (L' := [some (aR 12 0 0), some (aI v1)]) (stk' := [aI (-1)]) (σ' := σ) (g := []) (by decide +kernel) rfl rfl ?_
    refine aw_forget (L' := [none, none]) (lsub_n (lsub_n (lsub_0))) ?_
    exact ok_X12_byteAt_18 (-1) σ _ h
  · rw [if_neg c1] at h
    obtain ⟨hg, h⟩ := grd_some h
    refine aw_seq [(.aload_n 0, 1, ax0), (.getfield 19, 3, (axF 12 3 (2, 4, 13, some 300))), (.iload_n 1, 1, ax0), (.iaload, 1, ax0)] (pc' := 14) (L' := [some (aR 12 0 0), some (aI v1)]) (stk' := [aI (σ.1 4 (ix v1))]) (σ' := σ) (g := [inb v1 300]) (by decide +kernel) rfl hg ?_
    refine aw_goto (off := 4) (tgt := 18) (by decide +kernel) (by decide) ?_
    refine aw_forget (L' := [none, none]) (lsub_n (lsub_n (lsub_0))) ?_
    exact ok_X12_byteAt_18 (σ.1 4 (ix v1)) σ _ h
def f_X12_isLetterByte_29   (s0 : Int32) (σ : Sg) : Option (Int32 × Sg) :=
  grd (bz s0) <| some (s0, σ)
set_option maxRecDepth 100000 in
set_option maxHeartbeats 4000000 in
theorem ok_X12_isLetterByte_29 {κ : Kd}    : ∀ (s0 : Int32) (σ : Sg) (q : (Int32 × Sg)), f_X12_isLetterByte_29 s0 σ = some q → AW κ pX12_isLetterByte 1 (some (aI q.1), q.2) 29 [none] [aI s0] σ := by
  intro s0 σ q h
  unfold f_X12_isLetterByte_29 at h
  obtain ⟨hg, h⟩ := grd_some h
  cases h
  exact aw_zret rfl hg (by decide +kernel)
def f_X12_isLetterByte_24    (σ : Sg) : Option (Int32 × Sg) :=
  f_X12_isLetterByte_29 1 σ
set_option maxRecDepth 100000 in
set_option maxHeartbeats 4000000 in
theorem ok_X12_isLetterByte_24 {κ : Kd}    : ∀  (σ : Sg) (q : (Int32 × Sg)), f_X12_isLetterByte_24  σ = some q → AW κ pX12_isLetterByte 1 (some (aI q.1), q.2) 24 [none] [] σ := by
  intro  σ q h
  unfold f_X12_isLetterByte_24 at h
  refine aw_seq [(.iconst 1, 1, (axI 1))] (pc' := 25) (L' := [none]) (stk' := [aI 1]) (σ' := σ) (g := []) (by decide +kernel) rfl rfl ?_
  refine aw_goto (off := 4) (tgt := 29) (by decide +kernel) (by decide) ?_
  refine aw_forget (L' := [none]) (lsub_n (lsub_0)) ?_
  exact ok_X12_isLetterByte_29 1 σ _ h
def f_X12_isLetterByte_28    (σ : Sg) : Option (Int32 × Sg) :=
  f_X12_isLetterByte_29 0 σ
set_option maxRecDepth 100000 in
set_option maxHeartbeats 4000000 in
theorem ok_X12_isLetterByte_28 {κ : Kd}    : ∀  (σ : Sg) (q : (Int32 × Sg)), f_X12_isLetterByte_28  σ = some q → AW κ pX12_isLetterByte 1 (some (aI q.1), q.2) 28 [none] [] σ := by
  intro  σ q h
  unfold f_X12_isLetterByte_28 at h
  refine aw_seq [(.iconst 0, 1, (axI 0))] (pc' := 29) (L' := [none]) (stk' := [aI 0]) (σ' := σ) (g := []) (by decide +kernel) rfl rfl ?_
  refine aw_forget (L' := [none]) (lsub_n (lsub_0)) ?_
  exact ok_X12_isLetterByte_29 0 σ _ h
def f_X12_isLetterByte_12   (v0 : Int32) (σ : Sg) : Option (Int32 × Sg) :=
  if v0 < 65 then (
    f_X12_isLetterByte_28 σ
  ) else (
    if 90 < v0 then (
      f_X12_isLetterByte_28 σ
    ) else (
      f_X12_isLetterByte_24 σ
    )
  )
set_option maxRecDepth 100000 in
set_option maxHeartbeats 4000000 in
theorem ok_X12_isLetterByte_12 {κ : Kd}    : ∀ (v0 : Int32) (σ : Sg) (q : (Int32 × Sg)), f_X12_isLetterByte_12 v0 σ = some q → AW κ pX12_isLetterByte 1 (some (aI q.1), q.2) 12 [some (aI v0)] [] σ := by
  intro v0 σ q h
  unfold f_X12_isLetterByte_12 at h
  refine aw_seq [(.iload_n 0, 1, ax0), (.bipush 65, 2, (axI 65))] (pc' := 15) (L' := [some (aI v0)]) (stk' := [aI 65, aI v0]) (σ' := σ) (g := []) (by decide +kernel) rfl rfl ?_
  refine aw_icmp_lt (off := 13) (tgt := 28) (by decide +kernel) (by decide) (fun c1 => ?_) (fun c1 => ?_)
  · rw [if_pos c1] at h
    refine aw_forget (L' := [none]) (lsub_n (lsub_0)) ?_
    exact ok_X12_isLetterByte_28 σ _ h
  · rw [if_neg c1] at h
    refine aw_seq [(.iload_n 0, 1, ax0), (.bipush 90, 2, (axI 90))] (pc' := 21) (L' := [some (aI v0)]) (stk' := [aI 90, aI v0]) (σ' := σ) (g := []) (by decide +kernel) rfl rfl ?_
    refine aw_icmp_gt (off := 7) (tgt := 28) (by decide +kernel) (by decide) (fun c1 => ?_) (fun c1 => ?_)
    · rw [if_pos c1] at h
      refine aw_forget (L' := [none]) (lsub_n (lsub_0)) ?_
      exact ok_X12_isLetterByte_28 σ _ h
    · rw [if_neg c1] at h
      refine aw_forget (L' := [none]) (lsub_n (lsub_0)) ?_
      exact ok_X12_isLetterByte_24 σ _ h
def f_X12_isLetterByte (v0 : Int32) (σ : Sg) : Option (Int32 × Sg) :=
  if v0 < 97 then (
    f_X12_isLetterByte_12 v0 σ
  ) else (
    if v0 ≤ 122 then (
      f_X12_isLetterByte_24 σ
    ) else (
      f_X12_isLetterByte_12 v0 σ
    )
  )
set_option maxRecDepth 100000 in
set_option maxHeartbeats 4000000 in
theorem ok_X12_isLetterByte {κ : Kd} {v0 : Int32} {σ : Sg} {q : (Int32 × Sg)} (h : f_X12_isLetterByte v0 σ = some q) : AMet κ pX12_isLetterByte 1 [aI v0] σ (some (aI q.1), q.2) := by
  unfold f_X12_isLetterByte at h
  refine amet_of okp_X12_isLetterByte [(false, aI v0)] (List.forall_mem_cons.mpr ⟨rfl, (fun _ hn => absurd hn List.not_mem_nil)⟩) 0 rfl ?_
  show AW κ pX12_isLetterByte 1 (some (aI q.1), q.2) 0 [some (aI v0)] [] σ
  refine aw_seq [(.iload_n 0, 1, ax0), (.bipush 97, 2, (axI 97))] (pc' := 3) (L' := [some (aI v0)]) (stk' := [aI 97, aI v0]) (σ' := σ) (g := []) (by decide +kernel) rfl rfl ?_
  refine aw_icmp_lt (off := 9) (tgt := 12) (by decide +kernel) (by decide) (fun c1 => ?_) (fun c1 => ?_)
  · rw [if_pos c1] at h
    refine aw_forget (L' := [some (aI v0)]) (lsub_s (lsub_0)) ?_
    exact ok_X12_isLetterByte_12 v0 σ _ h
  · rw [if_neg c1] at h
    refine aw_seq [(.iload_n 0, 1, ax0), (.bipush 122, 2, (axI 122))] (pc' := 9) (L' := [some (aI v0)]) (stk' := [aI 122, aI v0]) (σ' := σ) (g := []) (by decide +kernel) rfl rfl ?_
    refine aw_icmp_le (off := 15) (tgt := 24) (by decide +kernel) (by decide) (fun c1 => ?_) (fun c1 => ?_)
    · rw [if_pos c1] at h
      refine aw_forget (L' := [none]) (lsub_n (lsub_0)) ?_
      exact ok_X12_isLetterByte_24 σ _ h
    · rw [if_neg c1] at h
      refine aw_forget (L' := [some (aI v0)]) (lsub_s (lsub_0)) ?_
      exact ok_X12_isLetterByte_12 v0 σ _ h
def f_X12_isFigure_17   (s0 : Int32) (σ : Sg) : Option (Int32 × Sg) :=
  grd (bz s0) <| some (s0, σ)
set_option maxRecDepth 100000 in
set_option maxHeartbeats 4000000 in
theorem ok_X12_isFigure_17 {κ : Kd}    : ∀ (s0 : Int32) (σ : Sg) (q : (Int32 × Sg)), f_X12_isFigure_17 s0 σ = some q → AW κ pX12_isFigure 1 (some (aI q.1), q.2) 17 [none] [aI s0] σ := by
  intro s0 σ q h
  unfold f_X12_isFigure_17 at h
  obtain ⟨hg, h⟩ := grd_some h
  cases h
  exact aw_zret rfl hg (by decide +kernel)
def f_X12_isFigure_16    (σ : Sg) : Option (Int32 × Sg) :=
  f_X12_isFigure_17 0 σ
set_option maxRecDepth 100000 in
set_option maxHeartbeats 4000000 in
theorem ok_X12_isFigure_16 {κ : Kd}    : ∀  (σ : Sg) (q : (Int32 × Sg)), f_X12_isFigure_16  σ = some q → AW κ pX12_isFigure 1 (some (aI q.1), q.2) 16 [none] [] σ := by
  intro  σ q h
  unfold f_X12_isFigure_16 at h
  refine aw_seq [(.iconst 0, 1, (axI 0))] (pc' := 17) (L' := [none]) (stk' := [aI 0]) (σ' := σ) (g := []) (by decide +kernel) rfl rfl ?_
  refine aw_forget (L' := [none]) (lsub_n (lsub_0)) ?_
  exact ok_X12_isFigure_17 0 σ _ h
def f_X12_isFigure (v0 : Int32) (σ : Sg) : Option (Int32 × Sg) :=
  if v0 < 48 then (
    f_X12_isFigure_16 σ
  ) else (
    if 57 < v0 then (
      f_X12_isFigure_16 σ
    ) else (
      f_X12_isFigure_17 1 σ
    )
  )
set_option maxRecDepth 100000 in
set_option maxHeartbeats 4000000 in
theorem ok_X12_isFigure {κ : Kd} {v0 : Int32} {σ : Sg} {q : (Int32 × Sg)} (h : f_X12_isFigure v0 σ = some q) : AMet κ pX12_isFigure 1 [aI v0] σ (some (aI q.1), q.2) := by
  unfold f_X12_isFigure at h
  refine amet_of okp_X12_isFigure [(false, aI v0)] (List.forall_mem_cons.mpr ⟨rfl, (fun _ hn => absurd hn List.not_mem_nil)⟩) 0 rfl ?_
  show AW κ pX12_isFigure 1 (some (aI q.1), q.2) 0 [some (aI v0)] [] σ
  refine aw_seq [(.iload_n 0, 1, ax0), (.bipush 48, 2, (axI 48))] (pc' := 3) (L' := [some (aI v0)]) (stk' := [aI 48, aI v0]) (σ' := σ) (g := []) (by decide +kernel) rfl rfl ?_
  refine aw_icmp_lt (off := 13) (tgt := 16) (by decide +kernel) (by decide) (fun c1 => ?_) (fun c1 => ?_)
  · rw [if_pos c1] at h
    refine aw_forget (L' := [none]) (lsub_n (lsub_0)) ?_
    exact ok_X12_isFigure_16 σ _ h
  · rw [if_neg c1] at h
    refine aw_seq [(.iload_n 0, 1, ax0), (.bipush 57, 2, (axI 57))] (pc' := 9) (L' := [some (aI v0)]) (stk' := [aI 57, aI v0]) (σ' := σ) (g := []) (by decide +kernel) rfl rfl ?_
    refine aw_icmp_gt (off := 7) (tgt := 16) (by decide +kernel) (by decide) (fun c1 => ?_) (fun c1 => ?_)
    · rw [if_pos c1] at h
      refine aw_forget (L' := [none]) (lsub_n (lsub_0)) ?_
      exact ok_X12_isFigure_16 σ _ h
    · rw [if_neg c1] at h
      refine aw_seq [(.iconst 1, 1, (axI 1))] (pc' := 13) (L' := [some (aI v0)]) (stk' := [aI 1]) (σ' := σ) (g := []) (by decide +kernel) rfl rfl ?_
      refine aw_goto (off := 4) (tgt := 17) (by decide +kernel) (by decide) ?_
      refine aw_forget (L' := [none]) (lsub_n (lsub_0)) ?_
      exact ok_X12_isFigure_17 1 σ _ h
def f_X12_isSign_128    (σ : Sg) : Option (Int32 × Sg) :=
  some (1, σ)
set_option maxRecDepth 100000 in
set_option maxHeartbeats 4000000 in
theorem ok_X12_isSign_128 {κ : Kd}    : ∀  (σ : Sg) (q : (Int32 × Sg)), f_X12_isSign_128  σ = some q → AW κ pX12_isSign 1 (some (aI q.1), q.2) 128 [none] [] σ := by
  intro  σ q h
  unfold f_X12_isSign_128 at h
  refine aw_seq [(.iconst 1, 1, (axI 1))] (pc' := 129) (L' := [none]) (stk' := [aI 1]) (σ' := σ) (g := []) (by decide +kernel) rfl rfl ?_
  cases h
  exact aw_zret rfl bz_1 (by decide +kernel)
def f_X12_isSign_130    (σ : Sg) : Option (Int32 × Sg) :=
  some (0, σ)
set_option maxRecDepth 100000 in
set_option maxHeartbeats 4000000 in
theorem ok_X12_isSign_130 {κ : Kd}    : ∀  (σ : Sg) (q : (Int32 × Sg)), f_X12_isSign_130  σ = some q → AW κ pX12_isSign 1 (some (aI q.1), q.2) 130 [none] [] σ := by
  intro  σ q h
  unfold f_X12_isSign_130 at h
  refine aw_seq [(.iconst 0, 1, (axI 0))] (pc' := 131) (L' := [none]) (stk' := [aI 0]) (σ' := σ) (g := []) (by decide +kernel) rfl rfl ?_
  cases h
  exact aw_zret rfl bz_0 (by decide +kernel)
def f_X12_isSign (v0 : Int32) (σ : Sg) : Option (Int32 × Sg) :=
  if v0 = 35 then (
    f_X12_isSign_128 σ
  ) else (
  if v0 = 36 then (
    f_X12_isSign_130 σ
  ) else (
  if v0 = 37 then (
    f_X12_isSign_130 σ
  ) else (
  if v0 = 38 then (
    f_X12_isSign_130 σ
  ) else (
  if v0 = 39 then (
    f_X12_isSign_130 σ
  ) else (
  if v0 = 40 then (
    f_X12_isSign_128 σ
  ) else (
  if v0 = 41 then (
    f_X12_isSign_128 σ
  ) else (
  if v0 = 42 then (
    f_X12_isSign_128 σ
  ) else (
  if v0 = 43 then (
    f_X12_isSign_128 σ
  ) else (
  if v0 = 44 then (
    f_X12_isSign_130 σ
  ) else (
  if v0 = 45 then (
    f_X12_isSign_128 σ
  ) else (
  if v0 = 46 then (
    f_X12_isSign_130 σ
  ) else (
  if v0 = 47 then (
    f_X12_isSign_128 σ
  ) else (
  if v0 = 48 then (
    f_X12_isSign_130 σ
  ) else (
  if v0 = 49 then (
    f_X12_isSign_130 σ
  ) else (
  if v0 = 50 then (
    f_X12_isSign_130 σ
  ) else (
  if v0 = 51 then (
    f_X12_isSign_130 σ
  ) else (
  if v0 = 52 then (
    f_X12_isSign_130 σ
  ) else (
  if v0 = 53 then (
    f_X12_isSign_130 σ
  ) else (
  if v0 = 54 then (
    f_X12_isSign_130 σ
  ) else (
  if v0 = 55 then (
    f_X12_isSign_130 σ
  ) else (
  if v0 = 56 then (
    f_X12_isSign_130 σ
  ) else (
  if v0 = 57 then (
    f_X12_isSign_130 σ
  ) else (
  if v0 = 58 then (
    f_X12_isSign_128 σ
  ) else (
  if v0 = 59 then (
    f_X12_isSign_128 σ
  ) else (
  if v0 = 60 then (
    f_X12_isSign_128 σ
  ) else (
  if v0 = 61 then (
    f_X12_isSign_128 σ
  ) else (
  if v0 = 62 then (
    f_X12_isSign_128 σ
  ) else (
    f_X12_isSign_130 σ
  ))))))))))))))))))))))))))))
set_option maxRecDepth 100000 in
set_option maxHeartbeats 4000000 in
theorem ok_X12_isSign {κ : Kd} {v0 : Int32} {σ : Sg} {q : (Int32 × Sg)} (h : f_X12_isSign v0 σ = some q) : AMet κ pX12_isSign 1 [aI v0] σ (some (aI q.1), q.2) := by
  unfold f_X12_isSign at h
  refine amet_of okp_X12_isSign [(false, aI v0)] (List.forall_mem_cons.mpr ⟨rfl, (fun _ hn => absurd hn List.not_mem_nil)⟩) 0 rfl ?_
  show AW κ pX12_isSign 1 (some (aI q.1), q.2) 0 [some (aI v0)] [] σ
  refine aw_seq [(.iload_n 0, 1, ax0)] (pc' := 1) (L' := [some (aI v0)]) (stk' := [aI v0]) (σ' := σ) (g := []) (by decide +kernel) rfl rfl ?_
  refine aw_table (dflt := 129) (lo := 35) (hi := 62) (offs := #[127, 129, 129, 129, 129, 127, 127, 127, 127, 129, 127, 129, 127, 129, 129, 129, 129, 129, 129, 129, 129, 129, 129, 127, 127, 127, 127, 127]) (len := 127) (dt := 130) (by decide +kernel) [(35, 128), (36, 130), (37, 130), (38, 130), (39, 130), (40, 128), (41, 128), (42, 128), (43, 128), (44, 130), (45, 128), (46, 130), (47, 128), (48, 130), (49, 130), (50, 130), (51, 130), (52, 130), (53, 130), (54, 130), (55, 130), (56, 130), (57, 130), (58, 128), (59, 128), (60, 128), (61, 128), (62, 128)] (by decide +kernel) ?_
  refine awsw_cons (fun c1 => ?_) (fun c1 => ?_)
  · rw [if_pos c1] at h
    refine aw_forget (L' := [none]) (lsub_n (lsub_0)) ?_
    exact ok_X12_isSign_128 σ _ h
  rw [if_neg c1] at h
  refine awsw_cons (fun c1 => ?_) (fun c1 => ?_)
  · rw [if_pos c1] at h
    refine aw_forget (L' := [none]) (lsub_n (lsub_0)) ?_
    exact ok_X12_isSign_130 σ _ h
  rw [if_neg c1] at h
  refine awsw_cons (fun c1 => ?_) (fun c1 => ?_)
  · rw [if_pos c1] at h
    refine aw_forget (L' := [none]) (lsub_n (lsub_0)) ?_
    exact ok_X12_isSign_130 σ _ h
  rw [if_neg c1] at h
  refine awsw_cons (fun c1 => ?_) (fun c1 => ?_)
  · rw [if_pos c1] at h
    refine aw_forget (L' := [none]) (lsub_n (lsub_0)) ?_
    exact ok_X12_isSign_130 σ _ h
  rw [if_neg c1] at h
  refine awsw_cons (fun c1 => ?_) (fun c1 => ?_)
  · rw [if_pos c1] at h
    refine aw_forget (L' := [none]) (lsub_n (lsub_0)) ?_
    exact ok_X12_isSign_130 σ _ h
  rw [if_neg c1] at h
  refine awsw_cons (fun c1 => ?_) (fun c1 => ?_)
  · rw [if_pos c1] at h
    refine aw_forget (L' := [none]) (lsub_n (lsub_0)) ?_
    exact ok_X12_isSign_128 σ _ h
  rw [if_neg c1] at h
  refine awsw_cons (fun c1 => ?_) (fun c1 => ?_)
  · rw [if_pos c1] at h
    refine aw_forget (L' := [none]) (lsub_n (lsub_0)) ?_
    exact ok_X12_isSign_128 σ _ h
  rw [if_neg c1] at h
  refine awsw_cons (fun c1 => ?_) (fun c1 => ?_)
  · rw [if_pos c1] at h
    refine aw_forget (L' := [none]) (lsub_n (lsub_0)) ?_
    exact ok_X12_isSign_128 σ _ h
  rw [if_neg c1] at h
  refine awsw_cons (fun c1 => ?_) (fun c1 => ?_)
  · rw [if_pos c1] at h
    refine aw_forget (L' := [none]) (lsub_n (lsub_0)) ?_
    exact ok_X12_isSign_128 σ _ h
  rw [if_neg c1] at h
  refine awsw_cons (fun c1 => ?_) (fun c1 => ?_)
  · rw [if_pos c1] at h
    refine aw_forget (L' := [none]) (lsub_n (lsub_0)) ?_
    exact ok_X12_isSign_130 σ _ h
  rw [if_neg c1] at h
  refine awsw_cons (fun c1 => ?_) (fun c1 => ?_)
  · rw [if_pos c1] at h
    refine aw_forget (L' := [none]) (lsub_n (lsub_0)) ?_
    exact ok_X12_isSign_128 σ _ h
  rw [if_neg c1] at h
  refine awsw_cons (fun c1 => ?_) (fun c1 => ?_)
  · rw [if_pos c1] at h
    refine aw_forget (L' := [none]) (lsub_n (lsub_0)) ?_
    exact ok_X12_isSign_130 σ _ h
  rw [if_neg c1] at h
  refine awsw_cons (fun c1 => ?_) (fun c1 => ?_)
  · rw [if_pos c1] at h
    refine aw_forget (L' := [none]) (lsub_n (lsub_0)) ?_
    exact ok_X12_isSign_128 σ _ h
  rw [if_neg c1] at h
  refine awsw_cons (fun c1 => ?_) (fun c1 => ?_)
  · rw [if_pos c1] at h
    refine aw_forget (L' := [none]) (lsub_n (lsub_0)) ?_
    exact ok_X12_isSign_130 σ _ h
  rw [if_neg c1] at h
  refine awsw_cons (fun c1 => ?_) (fun c1 => ?_)
  · rw [if_pos c1] at h
    refine aw_forget (L' := [none]) (lsub_n (lsub_0)) ?_
    exact ok_X12_isSign_130 σ _ h
  rw [if_neg c1] at h
  refine awsw_cons (fun c1 => ?_) (fun c1 => ?_)
  · rw [if_pos c1] at h
    refine aw_forget (L' := [none]) (lsub_n (lsub_0)) ?_
    exact ok_X12_isSign_130 σ _ h
  rw [if_neg c1] at h
  refine awsw_cons (fun c1 => ?_) (fun c1 => ?_)
  · rw [if_pos c1] at h
    refine aw_forget (L' := [none]) (lsub_n (lsub_0)) ?_
    exact ok_X12_isSign_130 σ _ h
  rw [if_neg c1] at h
  refine awsw_cons (fun c1 => ?_) (fun c1 => ?_)
  · rw [if_pos c1] at h
    refine aw_forget (L' := [none]) (lsub_n (lsub_0)) ?_
    exact ok_X12_isSign_130 σ _ h
  rw [if_neg c1] at h
  refine awsw_cons (fun c1 => ?_) (fun c1 => ?_)
  · rw [if_pos c1] at h
    refine aw_forget (L' := [none]) (lsub_n (lsub_0)) ?_
    exact ok_X12_isSign_130 σ _ h
  rw [if_neg c1] at h
  refine awsw_cons (fun c1 => ?_) (fun c1 => ?_)
  · rw [if_pos c1] at h
    refine aw_forget (L' := [none]) (lsub_n (lsub_0)) ?_
    exact ok_X12_isSign_130 σ _ h
  rw [if_neg c1] at h
  refine awsw_cons (fun c1 => ?_) (fun c1 => ?_)
  · rw [if_pos c1] at h
    refine aw_forget (L' := [none]) (lsub_n (lsub_0)) ?_
    exact ok_X12_isSign_130 σ _ h
  rw [if_neg c1] at h
  refine awsw_cons (fun c1 => ?_) (fun c1 => ?_)
  · rw [if_pos c1] at h
    refine aw_forget (L' := [none]) (lsub_n (lsub_0)) ?_
    exact ok_X12_isSign_130 σ _ h
  rw [if_neg c1] at h
  refine awsw_cons (fun c1 => ?_) (fun c1 => ?_)
  · rw [if_pos c1] at h
    refine aw_forget (L' := [none]) (lsub_n (lsub_0)) ?_
    exact ok_X12_isSign_130 σ _ h
  rw [if_neg c1] at h
  refine awsw_cons (fun c1 => ?_) (fun c1 => ?_)
  · rw [if_pos c1] at h
    refine aw_forget (L' := [none]) (lsub_n (lsub_0)) ?_
    exact ok_X12_isSign_128 σ _ h
  rw [if_neg c1] at h
  refine awsw_cons (fun c1 => ?_) (fun c1 => ?_)
  · rw [if_pos c1] at h
    refine aw_forget (L' := [none]) (lsub_n (lsub_0)) ?_
    exact ok_X12_isSign_128 σ _ h
  rw [if_neg c1] at h
  refine awsw_cons (fun c1 => ?_) (fun c1 => ?_)
  · rw [if_pos c1] at h
    refine aw_forget (L' := [none]) (lsub_n (lsub_0)) ?_
    exact ok_X12_isSign_128 σ _ h
  rw [if_neg c1] at h
  refine awsw_cons (fun c1 => ?_) (fun c1 => ?_)
  · rw [if_pos c1] at h
    refine aw_forget (L' := [none]) (lsub_n (lsub_0)) ?_
    exact ok_X12_isSign_128 σ _ h
  rw [if_neg c1] at h
  refine awsw_cons (fun c1 => ?_) (fun c1 => ?_)
  · rw [if_pos c1] at h
    refine aw_forget (L' := [none]) (lsub_n (lsub_0)) ?_
    exact ok_X12_isSign_128 σ _ h
  rw [if_neg c1] at h
  refine awsw_nil ?_
  refine aw_forget (L' := [none]) (lsub_n (lsub_0)) ?_
  exact ok_X12_isSign_130 σ _ h
def f_X12_nextToken_26  (rec_0 : Sg → Option Sg)  (σ : Sg) : Option Sg :=
  ltσ (wI σ 0 7 ((σ.1 0 7) + 1)) fun σ1 =>
  rec_0 σ1
set_option maxRecDepth 100000 in
set_option maxHeartbeats 4000000 in
theorem ok_X12_nextToken_26 {κ : Kd}   {rec_0 : Sg → Option Sg} (hrec_0 : ∀  (σ : Sg) (q : Sg), rec_0  σ = some q → AW κ pX12_nextToken 2 (none, q) 0 [some (aR 12 0 0), none] [] σ) : ∀  (σ : Sg) (q : Sg), f_X12_nextToken_26 rec_0  σ = some q → AW κ pX12_nextToken 2 (none, q) 26 [some (aR 12 0 0), none] [] σ := by
  intro  σ q h
  unfold f_X12_nextToken_26 at h
  obtain ⟨σ1, e2, h⟩ := ltσ_some h
  refine aw_seq [(.aload_n 0, 1, ax0), (.dup, 1, ax0), (.getfield 98, 3, (axF 12 7 (0, 0, 0, none))), (.iconst 1, 1, (axI 1)), (.iadd, 1, ax0), (.putfield 98, 3, (axF 12 7 (0, 0, 0, none)))] (pc' := 36) (L' := [some (aR 12 0 0), none]) (stk' := []) (σ' := σ1) (g := []) (by decide +kernel) (by rw [e2]; rfl) rfl ?_
  refine aw_goto (off := (-36)) (tgt := 0) (by decide +kernel) (by decide) ?_
  refine aw_forget (L' := [some (aR 12 0 0), none]) (lsub_s (lsub_n (lsub_0))) ?_
  exact hrec_0 σ1 _ h
def f_X12_nextToken_310    (σ : Sg) : Option Sg :=
  some σ
set_option maxRecDepth 100000 in
set_option maxHeartbeats 4000000 in
theorem ok_X12_nextToken_310 {κ : Kd}    : ∀  (σ : Sg) (q : Sg), f_X12_nextToken_310  σ = some q → AW κ pX12_nextToken 2 (none, q) 310 [none, none] [] σ := by
  intro  σ q h
  unfold f_X12_nextToken_310 at h
  cases h
  exact aw_vret rfl (by decide +kernel)
def f_X12_nextToken_135  (rec_85 : Sg → Option Sg) (s1 : Int32) (σ : Sg) : Option Sg :=
  ltσ (wI σ 0 10 s1) fun σ3 =>
  ltσ (wI σ3 0 7 ((σ3.1 0 7) + 1)) fun σ5 =>
  rec_85 σ5
set_option maxRecDepth 100000 in
set_option maxHeartbeats 4000000 in
theorem ok_X12_nextToken_135 {κ : Kd}   {rec_85 : Sg → Option Sg} (hrec_85 : ∀  (σ : Sg) (q : Sg), rec_85  σ = some q → AW κ pX12_nextToken 2 (none, q) 85 [some (aR 12 0 0), none] [] σ) : ∀ (s1 : Int32) (σ : Sg) (q : Sg), f_X12_nextToken_135 rec_85 s1 σ = some q → AW κ pX12_nextToken 2 (none, q) 135 [some (aR 12 0 0), none] [aI s1, aR 12 0 0] σ := by
  intro s1 σ q h
  unfold f_X12_nextToken_135 at h
  obtain ⟨σ3, e4, h⟩ := ltσ_some h
  refine aw_seq [(.putfield 114, 3, (axF 12 10 (0, 0, 0, none)))] (pc' := 138) (L' := [some (aR 12 0 0), none]) (stk' := []) (σ' := σ3) (g := []) (by decide +kernel) (by rw [e4]; rfl) rfl ?_
  obtain ⟨σ5, e6, h⟩ := ltσ_some h
  refine aw_seq [(.aload_n 0, 1, ax0), (.dup, 1, ax0), (.getfield 98, 3, (axF 12 7 (0, 0, 0, none))), (.iconst 1, 1, (axI 1)), (.iadd, 1, ax0), (.putfield 98, 3, (axF 12 7 (0, 0, 0, none)))] (pc' := 148) (L' := [some (aR 12 0 0), none]) (stk' := []) (σ' := σ5) (g := []) (by decide +kernel) (by rw [e6]; rfl) rfl ?_
  refine aw_goto (off := (-63)) (tgt := 85) (by decide +kernel) (by decide) ?_
  refine aw_forget (L' := [some (aR 12 0 0), none]) (lsub_s (lsub_n (lsub_0))) ?_
  exact hrec_85 σ5 _ h
def f_X12_nextToken_85   : Nat → Sg → Option Sg
  | 0, _ => none
  | fu + 1, σ =>
    bnd (f_X12_byteAt (σ.1 0 7) σ) fun r9 σ8 =>
    bnd (f_X12_isFigure r9 σ8) fun r12 σ11 =>
    if r12 = 0 then (
      f_X12_nextToken_310 σ11
    ) else (
      if (σ11.1 0 10) ≤ 99999 then (
        bnd (f_X12_byteAt (σ11.1 0 7) σ11) fun r15 σ14 =>
        f_X12_nextToken_135 (f_X12_nextToken_85 fu) (((10 * (σ11.1 0 10)) + r15) - 48) σ14
      ) else (
        f_X12_nextToken_135 (f_X12_nextToken_85 fu) (σ11.1 0 10) σ11
      )
    )
set_option maxRecDepth 100000 in
set_option maxHeartbeats 4000000 in
theorem ok_X12_nextToken_85 {κ : Kd}    : ∀ (fu : Nat)  (σ : Sg) (q : Sg), f_X12_nextToken_85 fu  σ = some q → AW κ pX12_nextToken 2 (none, q) 85 [some (aR 12 0 0), none] [] σ := by
  intro fu
  induction fu with
  | zero =>
    intro  σ q h
    unfold f_X12_nextToken_85 at h
    cases h
  | succ fu ih =>
    intro  σ q h
    unfold f_X12_nextToken_85 at h
    refine aw_seq [(.aload_n 0, 1, ax0), (.aload_n 0, 1, ax0), (.getfield 98, 3, (axF 12 7 (0, 0, 0, none)))] (pc' := 90) (L' := [some (aR 12 0 0), none]) (stk' := [aI (σ.1 0 7), aR 12 0 0]) (σ' := σ) (g := []) (by decide +kernel) rfl rfl ?_
    obtain ⟨r9, σ8, h7, h⟩ := bnd_some h
    refine aw_cV (P' := pX12_byteAt) (idx := 101) (d' := 1) (c := 12) (n := 0) (k := 0) [aI (σ.1 0 7)] [] (ov := (some (aI r9))) (stk2 := [aI r9]) okp_X12_byteAt (by decide +kernel) ml_RX12_101 vok_X12_byteAt (by decide) rfl nar_X12_byteAt (by decide) rfl (Nat.le_of_ble_eq_true rfl) (ok_X12_byteAt h7) rfl ?_
    obtain ⟨r12, σ11, h10, h⟩ := bnd_some h
    refine aw_cS (P' := pX12_isFigure) (idx := 111) (d' := 1) [aI r9] [] (ov := (some (aI r12))) (stk2 := [aI r12]) okp_X12_isFigure (by decide +kernel) ml_RX12_111 tok_X12_isFigure nar_X12_isFigure (by decide) rfl (Nat.le_of_ble_eq_true rfl) (ok_X12_isFigure h10) rfl ?_
    refine aw_if_eq (off := 214) (tgt := 310) (by decide +kernel) (by decide) (fun c1 => ?_) (fun c1 => ?_)
    · rw [if_pos c1] at h
      refine aw_forget (L' := [none, none]) (lsub_n (lsub_n (lsub_0))) ?_
      exact ok_X12_nextToken_310 σ11 _ h
    · rw [if_neg c1] at h
      refine aw_seq [(.aload_n 0, 1, ax0), (.aload_n 0, 1, ax0), (.getfield 114, 3, (axF 12 10 (0, 0, 0, none))), (.ldc 117, 2, (axI 99999))] (pc' := 106) (L' := [some (aR 12 0 0), none]) (stk' := [aI 99999, aI (σ11.1 0 10), aR 12 0 0]) (σ' := σ11) (g := []) (by decide +kernel) rfl rfl ?_
      refine aw_icmp_le (off := 10) (tgt := 116) (by decide +kernel) (by decide) (fun c1 => ?_) (fun c1 => ?_)
      · rw [if_pos c1] at h
        refine aw_seq [(.bipush 10, 2, (axI 10)), (.aload_n 0, 1, ax0), (.getfield 114, 3, (axF 12 10 (0, 0, 0, none))), (.imul, 1, ax0), (.aload_n 0, 1, ax0), (.aload_n 0, 1, ax0), (.getfield 98, 3, (axF 12 7 (0, 0, 0, none)))] (pc' := 128) (L' := [some (aR 12 0 0), none]) (stk' := [aI (σ11.1 0 7), aR 12 0 0, aI (10 * (σ11.1 0 10)), aR 12 0 0]) (σ' := σ11) (g := []) (by decide +kernel) rfl rfl ?_
        obtain ⟨r15, σ14, h13, h⟩ := bnd_some h
        refine aw_cV (P' := pX12_byteAt) (idx := 101) (d' := 1) (c := 12) (n := 0) (k := 0) [aI (σ11.1 0 7)] [aI (10 * (σ11.1 0 10)), aR 12 0 0] (ov := (some (aI r15))) (stk2 := [aI r15, aI (10 * (σ11.1 0 10)), aR 12 0 0]) okp_X12_byteAt (by decide +kernel) ml_RX12_101 vok_X12_byteAt (by decide) rfl nar_X12_byteAt (by decide) rfl (Nat.le_of_ble_eq_true rfl) (ok_X12_byteAt h13) rfl ?_
        refine aw_seq [(.iadd, 1, ax0), (.bipush 48, 2, (axI 48)), (.isub, 1, ax0)] (pc' := 135) (L' := [some (aR 12 0 0), none]) (stk' := [aI (((10 * (σ11.1 0 10)) + r15) - 48), aR 12 0 0]) (σ' := σ14) (g := []) (by decide +kernel) rfl rfl ?_
        refine aw_forget (L' := [some (aR 12 0 0), none]) (lsub_s (lsub_n (lsub_0))) ?_
        exact ok_X12_nextToken_135 ih (((10 * (σ11.1 0 10)) + r15) - 48) σ14 _ h
      · rw [if_neg c1] at h
        refine aw_seq [(.aload_n 0, 1, ax0), (.getfield 114, 3, (axF 12 10 (0, 0, 0, none)))] (pc' := 113) (L' := [some (aR 12 0 0), none]) (stk' := [aI (σ11.1 0 10), aR 12 0 0]) (σ' := σ11) (g := []) (by decide +kernel) rfl rfl ?_
        refine aw_goto (off := 22) (tgt := 135) (by decide +kernel) (by decide) ?_
        refine aw_forget (L' := [some (aR 12 0 0), none]) (lsub_s (lsub_n (lsub_0))) ?_
        exact ok_X12_nextToken_135 ih (σ11.1 0 10) σ11 _ h
def f_X12_nextToken_218  (rec_168 : Sg → Option Sg) (s1 : Int64) (σ : Sg) : Option Sg :=
  ltσ (wL σ 0 11 s1) fun σ16 =>
  ltσ (wI σ16 0 7 ((σ16.1 0 7) + 1)) fun σ18 =>
  rec_168 σ18
set_option maxRecDepth 100000 in
set_option maxHeartbeats 4000000 in
theorem ok_X12_nextToken_218 {κ : Kd}   {rec_168 : Sg → Option Sg} (hrec_168 : ∀  (σ : Sg) (q : Sg), rec_168  σ = some q → AW κ pX12_nextToken 2 (none, q) 168 [some (aR 12 0 0), none] [] σ) : ∀ (s1 : Int64) (σ : Sg) (q : Sg), f_X12_nextToken_218 rec_168 s1 σ = some q → AW κ pX12_nextToken 2 (none, q) 218 [some (aR 12 0 0), none] [aL s1, aR 12 0 0] σ := by
  intro s1 σ q h
  unfold f_X12_nextToken_218 at h
  obtain ⟨σ16, e17, h⟩ := ltσ_some h
  refine aw_seq [(.putfield 121, 3, (axF 12 11 (1, 0, 0, none)))] (pc' := 221) (L' := [some (aR 12 0 0), none]) (stk' := []) (σ' := σ16) (g := []) (by decide +kernel) (by rw [e17]; rfl) rfl ?_
  obtain ⟨σ18, e19, h⟩ := ltσ_some h
  refine aw_seq [(.aload_n 0, 1, ax0), (.dup, 1, ax0), (.getfield 98, 3, (axF 12 7 (0, 0, 0, none))), (.iconst 1, 1, (axI 1)), (.iadd, 1, ax0), (.putfield 98, 3, (axF 12 7 (0, 0, 0, none)))] (pc' := 231) (L' := [some (aR 12 0 0), none]) (stk' := []) (σ' := σ18) (g := []) (by decide +kernel) (by rw [e19]; rfl) rfl ?_
  refine aw_goto (off := (-63)) (tgt := 168) (by decide +kernel) (by decide) ?_
  refine aw_forget (L' := [some (aR 12 0 0), none]) (lsub_s (lsub_n (lsub_0))) ?_
  exact hrec_168 σ18 _ h
def f_X12_nextToken_168   : Nat → Sg → Option Sg
  | 0, _ => none
  | fu + 1, σ =>
    bnd (f_X12_byteAt (σ.1 0 7) σ) fun r22 σ21 =>
    bnd (f_X12_isLetterByte r22 σ21) fun r25 σ24 =>
    if r25 = 0 then (
      f_X12_nextToken_310 σ24
    ) else (
      if (lg_cmp (lshr (σ24.2.1 0 11) 48) 0) = 0 then (
        bnd (f_X12_byteAt (σ24.1 0 7) σ24) fun r28 σ27 =>
        f_X12_nextToken_218 (f_X12_nextToken_168 fu) ((lshl (σ24.2.1 0 11) 8) ||| (Int32.toInt64 r28)) σ27
      ) else (
        f_X12_nextToken_218 (f_X12_nextToken_168 fu) 1152921504606846976 σ24
      )
    )
set_option maxRecDepth 100000 in
set_option maxHeartbeats 4000000 in
theorem ok_X12_nextToken_168 {κ : Kd}    : ∀ (fu : Nat)  (σ : Sg) (q : Sg), f_X12_nextToken_168 fu  σ = some q → AW κ pX12_nextToken 2 (none, q) 168 [some (aR 12 0 0), none] [] σ := by
  intro fu
  induction fu with
  | zero =>
    intro  σ q h
    unfold f_X12_nextToken_168 at h
    cases h
  | succ fu ih =>
    intro  σ q h
    unfold f_X12_nextToken_168 at h
    refine aw_seq [(.aload_n 0, 1, ax0), (.aload_n 0, 1, ax0), (.getfield 98, 3, (axF 12 7 (0, 0, 0, none)))] (pc' := 173) (L' := [some (aR 12 0 0), none]) (stk' := [aI (σ.1 0 7), aR 12 0 0]) (σ' := σ) (g := []) (by decide +kernel) rfl rfl ?_
    obtain ⟨r22, σ21, h20, h⟩ := bnd_some h
    refine aw_cV (P' := pX12_byteAt) (idx := 101) (d' := 1) (c := 12) (n := 0) (k := 0) [aI (σ.1 0 7)] [] (ov := (some (aI r22))) (stk2 := [aI r22]) okp_X12_byteAt (by decide +kernel) ml_RX12_101 vok_X12_byteAt (by decide) rfl nar_X12_byteAt (by decide) rfl (Nat.le_of_ble_eq_true rfl) (ok_X12_byteAt h20) rfl ?_
    obtain ⟨r25, σ24, h23, h⟩ := bnd_some h
    refine aw_cS (P' := pX12_isLetterByte) (idx := 118) (d' := 1) [aI r22] [] (ov := (some (aI r25))) (stk2 := [aI r25]) okp_X12_isLetterByte (by decide +kernel) ml_RX12_118 tok_X12_isLetterByte nar_X12_isLetterByte (by decide) rfl (Nat.le_of_ble_eq_true rfl) (ok_X12_isLetterByte h23) rfl ?_
    refine aw_if_eq (off := 131) (tgt := 310) (by decide +kernel) (by decide) (fun c1 => ?_) (fun c1 => ?_)
    · rw [if_pos c1] at h
      refine aw_forget (L' := [none, none]) (lsub_n (lsub_n (lsub_0))) ?_
      exact ok_X12_nextToken_310 σ24 _ h
    · rw [if_neg c1] at h
      refine aw_seq [(.aload_n 0, 1, ax0), (.aload_n 0, 1, ax0), (.getfield 121, 3, (axF 12 11 (1, 0, 0, none))), (.bipush 48, 2, (axI 48)), (.lshr, 1, ax0), (.lconst 0, 1, (axL 0)), (.lcmp, 1, ax0)] (pc' := 192) (L' := [some (aR 12 0 0), none]) (stk' := [aI (lg_cmp (lshr (σ24.2.1 0 11) 48) 0), aR 12 0 0]) (σ' := σ24) (g := []) (by decide +kernel) rfl rfl ?_
      refine aw_if_eq (off := 9) (tgt := 201) (by decide +kernel) (by decide) (fun c1 => ?_) (fun c1 => ?_)
      · rw [if_pos c1] at h
        refine aw_seq [(.aload_n 0, 1, ax0), (.getfield 121, 3, (axF 12 11 (1, 0, 0, none))), (.bipush 8, 2, (axI 8)), (.lshl, 1, ax0), (.aload_n 0, 1, ax0), (.aload_n 0, 1, ax0), (.getfield 98, 3, (axF 12 7 (0, 0, 0, none)))] (pc' := 213) (L' := [some (aR 12 0 0), none]) (stk' := [aI (σ24.1 0 7), aR 12 0 0, aL (lshl (σ24.2.1 0 11) 8), aR 12 0 0]) (σ' := σ24) (g := []) (by decide +kernel) rfl rfl ?_
        obtain ⟨r28, σ27, h26, h⟩ := bnd_some h
        refine aw_cV (P' := pX12_byteAt) (idx := 101) (d' := 1) (c := 12) (n := 0) (k := 0) [aI (σ24.1 0 7)] [aL (lshl (σ24.2.1 0 11) 8), aR 12 0 0] (ov := (some (aI r28))) (stk2 := [aI r28, aL (lshl (σ24.2.1 0 11) 8), aR 12 0 0]) okp_X12_byteAt (by decide +kernel) ml_RX12_101 vok_X12_byteAt (by decide) rfl nar_X12_byteAt (by decide) rfl (Nat.le_of_ble_eq_true rfl) (ok_X12_byteAt h26) rfl ?_
        refine aw_seq [(.i2l, 1, ax0), (.lor, 1, ax0)] (pc' := 218) (L' := [some (aR 12 0 0), none]) (stk' := [aL ((lshl (σ24.2.1 0 11) 8) ||| (Int32.toInt64 r28)), aR 12 0 0]) (σ' := σ27) (g := []) (by decide +kernel) rfl rfl ?_
        refine aw_forget (L' := [some (aR 12 0 0), none]) (lsub_s (lsub_n (lsub_0))) ?_
        exact ok_X12_nextToken_218 ih ((lshl (σ24.2.1 0 11) 8) ||| (Int32.toInt64 r28)) σ27 _ h
      · rw [if_neg c1] at h
        refine aw_seq [(.ldc2_w 125, 3, (axL 1152921504606846976))] (pc' := 198) (L' := [some (aR 12 0 0), none]) (stk' := [aL 1152921504606846976, aR 12 0 0]) (σ' := σ24) (g := []) (by decide +kernel) rfl rfl ?_
        refine aw_goto (off := 20) (tgt := 218) (by decide +kernel) (by decide) ?_
        refine aw_forget (L' := [some (aR 12 0 0), none]) (lsub_s (lsub_n (lsub_0))) ?_
        exact ok_X12_nextToken_218 ih 1152921504606846976 σ24 _ h
def f_X12_nextToken_297   (s1 : Int32) (σ : Sg) : Option Sg :=
  ltσ (wI σ 0 9 s1) fun σ29 =>
  ltσ (wI σ29 0 7 ((σ29.1 0 7) + 1)) fun σ31 =>
  f_X12_nextToken_310 σ31
set_option maxRecDepth 100000 in
set_option maxHeartbeats 4000000 in
theorem ok_X12_nextToken_297 {κ : Kd}    : ∀ (s1 : Int32) (σ : Sg) (q : Sg), f_X12_nextToken_297 s1 σ = some q → AW κ pX12_nextToken 2 (none, q) 297 [some (aR 12 0 0), none] [aI s1, aR 12 0 0] σ := by
  intro s1 σ q h
  unfold f_X12_nextToken_297 at h
  obtain ⟨σ29, e30, h⟩ := ltσ_some h
  refine aw_seq [(.putfield 108, 3, (axF 12 9 (0, 0, 0, none)))] (pc' := 300) (L' := [some (aR 12 0 0), none]) (stk' := []) (σ' := σ29) (g := []) (by decide +kernel) (by rw [e30]; rfl) rfl ?_
  obtain ⟨σ31, e32, h⟩ := ltσ_some h
  refine aw_seq [(.aload_n 0, 1, ax0), (.dup, 1, ax0), (.getfield 98, 3, (axF 12 7 (0, 0, 0, none))), (.iconst 1, 1, (axI 1)), (.iadd, 1, ax0), (.putfield 98, 3, (axF 12 7 (0, 0, 0, none)))] (pc' := 310) (L' := [some (aR 12 0 0), none]) (stk' := []) (σ' := σ31) (g := []) (by decide +kernel) (by rw [e32]; rfl) rfl ?_
  refine aw_forget (L' := [none, none]) (lsub_n (lsub_n (lsub_0))) ?_
  exact ok_X12_nextToken_310 σ31 _ h
def f_X12_nextToken_272   (v1 : Int32) (σ : Sg) : Option Sg :=
  bnd (f_X12_byteAt (σ.1 0 7) σ) fun r35 σ34 =>
  if r35 = 61 then (
    if v1 = 60 then (
      f_X12_nextToken_297 4 σ34
    ) else (
      f_X12_nextToken_297 5 σ34
    )
  ) else (
    f_X12_nextToken_310 σ34
  )
set_option maxRecDepth 100000 in
set_option maxHeartbeats 4000000 in
theorem ok_X12_nextToken_272 {κ : Kd}    : ∀ (v1 : Int32) (σ : Sg) (q : Sg), f_X12_nextToken_272 v1 σ = some q → AW κ pX12_nextToken 2 (none, q) 272 [some (aR 12 0 0), some (aI v1)] [] σ := by
  intro v1 σ q h
  unfold f_X12_nextToken_272 at h
  refine aw_seq [(.aload_n 0, 1, ax0), (.aload_n 0, 1, ax0), (.getfield 98, 3, (axF 12 7 (0, 0, 0, none)))] (pc' := 277) (L' := [some (aR 12 0 0), some (aI v1)]) (stk' := [aI (σ.1 0 7), aR 12 0 0]) (σ' := σ) (g := []) (by decide +kernel) rfl rfl ?_
  obtain ⟨r35, σ34, h33, h⟩ := bnd_some h
  refine aw_cV (P' := pX12_byteAt) (idx := 101) (d' := 1) (c := 12) (n := 0) (k := 0) [aI (σ.1 0 7)] [] (ov := (some (aI r35))) (stk2 := [aI r35]) okp_X12_byteAt (by decide +kernel) ml_RX12_101 vok_X12_byteAt (by decide) rfl nar_X12_byteAt (by decide) rfl (Nat.le_of_ble_eq_true rfl) (ok_X12_byteAt h33) rfl ?_
  refine aw_seq [(.bipush 61, 2, (axI 61))] (pc' := 282) (L' := [some (aR 12 0 0), some (aI v1)]) (stk' := [aI 61, aI r35]) (σ' := σ34) (g := []) (by decide +kernel) rfl rfl ?_
  refine aw_icmp_ne (off := 28) (tgt := 310) (by decide +kernel) (by decide) (fun c1 => ?_) (fun c1 => ?_)
  · rw [if_neg c1] at h
    refine aw_forget (L' := [none, none]) (lsub_n (lsub_n (lsub_0))) ?_
    exact ok_X12_nextToken_310 σ34 _ h
  · rw [if_pos c1] at h
    refine aw_seq [(.aload_n 0, 1, ax0), (.iload_n 1, 1, ax0), (.bipush 60, 2, (axI 60))] (pc' := 289) (L' := [some (aR 12 0 0), some (aI v1)]) (stk' := [aI 60, aI v1, aR 12 0 0]) (σ' := σ34) (g := []) (by decide +kernel) rfl rfl ?_
    refine aw_icmp_ne (off := 7) (tgt := 296) (by decide +kernel) (by decide) (fun c1 => ?_) (fun c1 => ?_)
    · rw [if_neg c1] at h
      refine aw_seq [(.iconst 5, 1, (axI 5))] (pc' := 297) (L' := [some (aR 12 0 0), some (aI v1)]) (stk' := [aI 5, aR 12 0 0]) (σ' := σ34) (g := []) (by decide +kernel) rfl rfl ?_
      refine aw_forget (L' := [some (aR 12 0 0), none]) (lsub_s (lsub_n (lsub_0))) ?_
      exact ok_X12_nextToken_297 5 σ34 _ h
    · rw [if_pos c1] at h
      refine aw_seq [(.iconst 4, 1, (axI 4))] (pc' := 293) (L' := [some (aR 12 0 0), some (aI v1)]) (stk' := [aI 4, aR 12 0 0]) (σ' := σ34) (g := []) (by decide +kernel) rfl rfl ?_
      refine aw_goto (off := 4) (tgt := 297) (by decide +kernel) (by decide) ?_
      refine aw_forget (L' := [some (aR 12 0 0), none]) (lsub_s (lsub_n (lsub_0))) ?_
      exact ok_X12_nextToken_297 4 σ34 _ h
def f_X12_nextToken_247   (v1 : Int32) (s1 : Int32) (σ : Sg) : Option Sg :=
  ltσ (wI σ 0 9 s1) fun σ36 =>
  ltσ (wI σ36 0 7 ((σ36.1 0 7) + 1)) fun σ38 =>
  if v1 = 60 then (
    f_X12_nextToken_272 v1 σ38
  ) else (
    if v1 = 62 then (
      f_X12_nextToken_272 v1 σ38
    ) else (
      f_X12_nextToken_310 σ38
    )
  )
set_option maxRecDepth 100000 in
set_option maxHeartbeats 4000000 in
theorem ok_X12_nextToken_247 {κ : Kd}    : ∀ (v1 : Int32) (s1 : Int32) (σ : Sg) (q : Sg), f_X12_nextToken_247 v1 s1 σ = some q → AW κ pX12_nextToken 2 (none, q) 247 [some (aR 12 0 0), some (aI v1)] [aI s1, aR 12 0 0] σ := by
  intro v1 s1 σ q h
  unfold f_X12_nextToken_247 at h
  obtain ⟨σ36, e37, h⟩ := ltσ_some h
  refine aw_seq [(.putfield 108, 3, (axF 12 9 (0, 0, 0, none)))] (pc' := 250) (L' := [some (aR 12 0 0), some (aI v1)]) (stk' := []) (σ' := σ36) (g := []) (by decide +kernel) (by rw [e37]; rfl) rfl ?_
  obtain ⟨σ38, e39, h⟩ := ltσ_some h
  refine aw_seq [(.aload_n 0, 1, ax0), (.dup, 1, ax0), (.getfield 98, 3, (axF 12 7 (0, 0, 0, none))), (.iconst 1, 1, (axI 1)), (.iadd, 1, ax0), (.putfield 98, 3, (axF 12 7 (0, 0, 0, none)))] (pc' := 260) (L' := [some (aR 12 0 0), some (aI v1)]) (stk' := []) (σ' := σ38) (g := []) (by decide +kernel) (by rw [e39]; rfl) rfl ?_
  refine aw_seq [(.iload_n 1, 1, ax0), (.bipush 60, 2, (axI 60))] (pc' := 263) (L' := [some (aR 12 0 0), some (aI v1)]) (stk' := [aI 60, aI v1]) (σ' := σ38) (g := []) (by decide +kernel) rfl rfl ?_
  refine aw_icmp_eq (off := 9) (tgt := 272) (by decide +kernel) (by decide) (fun c1 => ?_) (fun c1 => ?_)
  · rw [if_pos c1] at h
    refine aw_forget (L' := [some (aR 12 0 0), some (aI v1)]) (lsub_s (lsub_s (lsub_0))) ?_
    exact ok_X12_nextToken_272 v1 σ38 _ h
  · rw [if_neg c1] at h
    refine aw_seq [(.iload_n 1, 1, ax0), (.bipush 62, 2, (axI 62))] (pc' := 269) (L' := [some (aR 12 0 0), some (aI v1)]) (stk' := [aI 62, aI v1]) (σ' := σ38) (g := []) (by decide +kernel) rfl rfl ?_
    refine aw_icmp_ne (off := 41) (tgt := 310) (by decide +kernel) (by decide) (fun c1 => ?_) (fun c1 => ?_)
    · rw [if_neg c1] at h
      refine aw_forget (L' := [none, none]) (lsub_n (lsub_n (lsub_0))) ?_
      exact ok_X12_nextToken_310 σ38 _ h
    · rw [if_pos c1] at h
      refine aw_forget (L' := [some (aR 12 0 0), some (aI v1)]) (lsub_s (lsub_s (lsub_0))) ?_
      exact ok_X12_nextToken_272 v1 σ38 _ h
def f_X12_nextToken_0   : Nat → Sg → Option Sg
  | 0, _ => none
  | fu + 1, σ =>
    bnd (f_X12_byteAt (σ.1 0 7) σ) fun r42 σ41 =>
    if r42 = 32 then (
      f_X12_nextToken_26 (f_X12_nextToken_0 fu) σ41
    ) else (
      bnd (f_X12_byteAt (σ41.1 0 7) σ41) fun r45 σ44 =>
      if r45 = 10 then (
        f_X12_nextToken_26 (f_X12_nextToken_0 fu) σ44
      ) else (
        ltσ (wI σ44 0 8 (σ44.1 0 7)) fun σ46 =>
        bnd (f_X12_byteAt (σ46.1 0 7) σ46) fun r50 σ49 =>
        if 0 ≤ r50 then (
          bnd (f_X12_isFigure r50 σ49) fun r53 σ52 =>
          if r53 = 0 then (
            bnd (f_X12_isLetterByte r50 σ52) fun r56 σ55 =>
            if r56 = 0 then (
              bnd (f_X12_isSign r50 σ55) fun r59 σ58 =>
              if r59 = 0 then (
                f_X12_nextToken_247 r50 3 σ58
              ) else (
                f_X12_nextToken_247 r50 r50 σ58
              )
            ) else (
              ltσ (wI σ55 0 9 2) fun σ60 =>
              ltσ (wL σ60 0 11 0) fun σ62 =>
              f_X12_nextToken_168 FU σ62
            )
          ) else (
            ltσ (wI σ52 0 9 1) fun σ64 =>
            ltσ (wI σ64 0 10 0) fun σ66 =>
            f_X12_nextToken_85 FU σ66
          )
        ) else (
          ltσ (wI σ49 0 9 0) fun σ68 =>
          f_X12_nextToken_310 σ68
        )
      )
    )
set_option maxRecDepth 100000 in
set_option maxHeartbeats 4000000 in
theorem ok_X12_nextToken_0 {κ : Kd}    : ∀ (fu : Nat)  (σ : Sg) (q : Sg), f_X12_nextToken_0 fu  σ = some q → AW κ pX12_nextToken 2 (none, q) 0 [some (aR 12 0 0), none] [] σ := by
  intro fu
  induction fu with
  | zero =>
    intro  σ q h
    unfold f_X12_nextToken_0 at h
    cases h
  | succ fu ih =>
    intro  σ q h
    unfold f_X12_nextToken_0 at h
    refine aw_seq [(.aload_n 0, 1, ax0), (.aload_n 0, 1, ax0), (.getfield 98, 3, (axF 12 7 (0, 0, 0, none)))] (pc' := 5) (L' := [some (aR 12 0 0), none]) (stk' := [aI (σ.1 0 7), aR 12 0 0]) (σ' := σ) (g := []) (by decide +kernel) rfl rfl ?_
    obtain ⟨r42, σ41, h40, h⟩ := bnd_some h
    refine aw_cV (P' := pX12_byteAt) (idx := 101) (d' := 1) (c := 12) (n := 0) (k := 0) [aI (σ.1 0 7)] [] (ov := (some (aI r42))) (stk2 := [aI r42]) okp_X12_byteAt (by decide +kernel) ml_RX12_101 vok_X12_byteAt (by decide) rfl nar_X12_byteAt (by decide) rfl (Nat.le_of_ble_eq_true rfl) (ok_X12_byteAt h40) rfl ?_
    refine aw_seq [(.bipush 32, 2, (axI 32))] (pc' := 10) (L' := [some (aR 12 0 0), none]) (stk' := [aI 32, aI r42]) (σ' := σ41) (g := []) (by decide +kernel) rfl rfl ?_
    refine aw_icmp_eq (off := 16) (tgt := 26) (by decide +kernel) (by decide) (fun c1 => ?_) (fun c1 => ?_)
    · rw [if_pos c1] at h
      refine aw_forget (L' := [some (aR 12 0 0), none]) (lsub_s (lsub_n (lsub_0))) ?_
      exact ok_X12_nextToken_26 ih σ41 _ h
    · rw [if_neg c1] at h
      refine aw_seq [(.aload_n 0, 1, ax0), (.aload_n 0, 1, ax0), (.getfield 98, 3, (axF 12 7 (0, 0, 0, none)))] (pc' := 18) (L' := [some (aR 12 0 0), none]) (stk' := [aI (σ41.1 0 7), aR 12 0 0]) (σ' := σ41) (g := []) (by decide +kernel) rfl rfl ?_
      obtain ⟨r45, σ44, h43, h⟩ := bnd_some h
      refine aw_cV (P' := pX12_byteAt) (idx := 101) (d' := 1) (c := 12) (n := 0) (k := 0) [aI (σ41.1 0 7)] [] (ov := (some (aI r45))) (stk2 := [aI r45]) okp_X12_byteAt (by decide +kernel) ml_RX12_101 vok_X12_byteAt (by decide) rfl nar_X12_byteAt (by decide) rfl (Nat.le_of_ble_eq_true rfl) (ok_X12_byteAt h43) rfl ?_
      refine aw_seq [(.bipush 10, 2, (axI 10))] (pc' := 23) (L' := [some (aR 12 0 0), none]) (stk' := [aI 10, aI r45]) (σ' := σ44) (g := []) (by decide +kernel) rfl rfl ?_
      refine aw_icmp_ne (off := 16) (tgt := 39) (by decide +kernel) (by decide) (fun c1 => ?_) (fun c1 => ?_)
      · rw [if_neg c1] at h
        obtain ⟨σ46, e47, h⟩ := ltσ_some h
        refine aw_seq [(.aload_n 0, 1, ax0), (.aload_n 0, 1, ax0), (.getfield 98, 3, (axF 12 7 (0, 0, 0, none))), (.putfield 105, 3, (axF 12 8 (0, 0, 0, none)))] (pc' := 47) (L' := [some (aR 12 0 0), none]) (stk' := []) (σ' := σ46) (g := []) (by decide +kernel) (by rw [e47]; rfl) rfl ?_
        refine aw_seq [(.aload_n 0, 1, ax0), (.aload_n 0, 1, ax0), (.getfield 98, 3, (axF 12 7 (0, 0, 0, none)))] (pc' := 52) (L' := [some (aR 12 0 0), none]) (stk' := [aI (σ46.1 0 7), aR 12 0 0]) (σ' := σ46) (g := []) (by decide +kernel) rfl rfl ?_
        obtain ⟨r50, σ49, h48, h⟩ := bnd_some h
        refine aw_cV (P' := pX12_byteAt) (idx := 101) (d' := 1) (c := 12) (n := 0) (k := 0) [aI (σ46.1 0 7)] [] (ov := (some (aI r50))) (stk2 := [aI r50]) okp_X12_byteAt (by decide +kernel) ml_RX12_101 vok_X12_byteAt (by decide) rfl nar_X12_byteAt (by decide) rfl (Nat.le_of_ble_eq_true rfl) (ok_X12_byteAt h48) rfl ?_
        refine aw_seq [(.istore_n 1, 1, ax0), (.iload_n 1, 1, ax0)] (pc' := 57) (L' := [some (aR 12 0 0), some (aI r50)]) (stk' := [aI r50]) (σ' := σ49) (g := []) (by decide +kernel) rfl rfl ?_
        refine aw_if_ge (off := 11) (tgt := 68) (by decide +kernel) (by decide) (fun c1 => ?_) (fun c1 => ?_)
        · rw [if_pos c1] at h
          refine aw_seq [(.iload_n 1, 1, ax0)] (pc' := 69) (L' := [some (aR 12 0 0), some (aI r50)]) (stk' := [aI r50]) (σ' := σ49) (g := []) (by decide +kernel) rfl rfl ?_
          obtain ⟨r53, σ52, h51, h⟩ := bnd_some h
          refine aw_cS (P' := pX12_isFigure) (idx := 111) (d' := 1) [aI r50] [] (ov := (some (aI r53))) (stk2 := [aI r53]) okp_X12_isFigure (by decide +kernel) ml_RX12_111 tok_X12_isFigure nar_X12_isFigure (by decide) rfl (Nat.le_of_ble_eq_true rfl) (ok_X12_isFigure h51) rfl ?_
          refine aw_if_eq (off := 79) (tgt := 151) (by decide +kernel) (by decide) (fun c1 => ?_) (fun c1 => ?_)
          · rw [if_pos c1] at h
            refine aw_seq [(.iload_n 1, 1, ax0)] (pc' := 152) (L' := [some (aR 12 0 0), some (aI r50)]) (stk' := [aI r50]) (σ' := σ52) (g := []) (by decide +kernel) rfl rfl ?_
            obtain ⟨r56, σ55, h54, h⟩ := bnd_some h
            refine aw_cS (P' := pX12_isLetterByte) (idx := 118) (d' := 1) [aI r50] [] (ov := (some (aI r56))) (stk2 := [aI r56]) okp_X12_isLetterByte (by decide +kernel) ml_RX12_118 tok_X12_isLetterByte nar_X12_isLetterByte (by decide) rfl (Nat.le_of_ble_eq_true rfl) (ok_X12_isLetterByte h54) rfl ?_
            refine aw_if_eq (off := 79) (tgt := 234) (by decide +kernel) (by decide) (fun c1 => ?_) (fun c1 => ?_)
            · rw [if_pos c1] at h
              refine aw_seq [(.aload_n 0, 1, ax0), (.iload_n 1, 1, ax0)] (pc' := 236) (L' := [some (aR 12 0 0), some (aI r50)]) (stk' := [aI r50, aR 12 0 0]) (σ' := σ55) (g := []) (by decide +kernel) rfl rfl ?_
              obtain ⟨r59, σ58, h57, h⟩ := bnd_some h
              refine aw_cS (P' := pX12_isSign) (idx := 127) (d' := 1) [aI r50] [aR 12 0 0] (ov := (some (aI r59))) (stk2 := [aI r59, aR 12 0 0]) okp_X12_isSign (by decide +kernel) ml_RX12_127 tok_X12_isSign nar_X12_isSign (by decide) rfl (Nat.le_of_ble_eq_true rfl) (ok_X12_isSign h57) rfl ?_
              refine aw_if_eq (off := 7) (tgt := 246) (by decide +kernel) (by decide) (fun c1 => ?_) (fun c1 => ?_)
              · rw [if_pos c1] at h
                refine aw_seq [(.iconst 3, 1, (axI 3))] (pc' := 247) (L' := [some (aR 12 0 0), some (aI r50)]) (stk' := [aI 3, aR 12 0 0]) (σ' := σ58) (g := []) (by decide +kernel) rfl rfl ?_
                refine aw_forget (L' := [some (aR 12 0 0), some (aI r50)]) (lsub_s (lsub_s (lsub_0))) ?_
                exact ok_X12_nextToken_247 r50 3 σ58 _ h
              · rw [if_neg c1] at h
                refine aw_seq [(.iload_n 1, 1, ax0)] (pc' := 243) (L' := [some (aR 12 0 0), some (aI r50)]) (stk' := [aI r50, aR 12 0 0]) (σ' := σ58) (g := []) (by decide +kernel) rfl rfl ?_
                refine aw_goto (off := 4) (tgt := 247) (by decide +kernel) (by decide) ?_
                refine aw_forget (L' := [some (aR 12 0 0), some (aI r50)]) (lsub_s (lsub_s (lsub_0))) ?_
                exact ok_X12_nextToken_247 r50 r50 σ58 _ h
            · rw [if_neg c1] at h
              obtain ⟨σ60, e61, h⟩ := ltσ_some h
              refine aw_seq [(.aload_n 0, 1, ax0), (.iconst 2, 1, (axI 2)), (.putfield 108, 3, (axF 12 9 (0, 0, 0, none)))] (pc' := 163) (L' := [some (aR 12 0 0), some (aI r50)]) (stk' := []) (σ' := σ60) (g := []) (by decide +kernel) (by rw [e61]; rfl) rfl ?_
              obtain ⟨σ62, e63, h⟩ := ltσ_some h
              refine aw_seq [(.aload_n 0, 1, ax0), (.lconst 0, 1, (axL 0)), (.putfield 121, 3, (axF 12 11 (1, 0, 0, none)))] (pc' := 168) (L' := [some (aR 12 0 0), some (aI r50)]) (stk' := []) (σ' := σ62) (g := []) (by decide +kernel) (by rw [e63]; rfl) rfl ?_
              refine aw_forget (L' := [some (aR 12 0 0), none]) (lsub_s (lsub_n (lsub_0))) ?_
              exact ok_X12_nextToken_168 FU σ62 _ h
          · rw [if_neg c1] at h
            obtain ⟨σ64, e65, h⟩ := ltσ_some h
            refine aw_seq [(.aload_n 0, 1, ax0), (.iconst 1, 1, (axI 1)), (.putfield 108, 3, (axF 12 9 (0, 0, 0, none)))] (pc' := 80) (L' := [some (aR 12 0 0), some (aI r50)]) (stk' := []) (σ' := σ64) (g := []) (by decide +kernel) (by rw [e65]; rfl) rfl ?_
            obtain ⟨σ66, e67, h⟩ := ltσ_some h
            refine aw_seq [(.aload_n 0, 1, ax0), (.iconst 0, 1, (axI 0)), (.putfield 114, 3, (axF 12 10 (0, 0, 0, none)))] (pc' := 85) (L' := [some (aR 12 0 0), some (aI r50)]) (stk' := []) (σ' := σ66) (g := []) (by decide +kernel) (by rw [e67]; rfl) rfl ?_
            refine aw_forget (L' := [some (aR 12 0 0), none]) (lsub_s (lsub_n (lsub_0))) ?_
            exact ok_X12_nextToken_85 FU σ66 _ h
        · rw [if_neg c1] at h
          obtain ⟨σ68, e69, h⟩ := ltσ_some h
          refine aw_seq [(.aload_n 0, 1, ax0), (.iconst 0, 1, (axI 0)), (.putfield 108, 3, (axF 12 9 (0, 0, 0, none)))] (pc' := 65) (L' := [some (aR 12 0 0), some (aI r50)]) (stk' := []) (σ' := σ68) (g := []) (by decide +kernel) (by rw [e69]; rfl) rfl ?_
          refine aw_goto (off := 245) (tgt := 310) (by decide +kernel) (by decide) ?_
          refine aw_forget (L' := [none, none]) (lsub_n (lsub_n (lsub_0))) ?_
          exact ok_X12_nextToken_310 σ68 _ h
      · rw [if_pos c1] at h
        refine aw_forget (L' := [some (aR 12 0 0), none]) (lsub_s (lsub_n (lsub_0))) ?_
        exact ok_X12_nextToken_26 ih σ44 _ h
def f_X12_nextToken  (σ : Sg) : Option Sg :=
  f_X12_nextToken_0 FU σ
set_option maxRecDepth 100000 in
set_option maxHeartbeats 4000000 in
theorem ok_X12_nextToken {κ : Kd}  {σ : Sg} {q : Sg} (h : f_X12_nextToken σ = some q) : AMet κ pX12_nextToken 2 [aR 12 0 0] σ (none, q) := by
  unfold f_X12_nextToken at h
  refine amet_of okp_X12_nextToken [(false, aR 12 0 0)] (List.forall_mem_cons.mpr ⟨rfl, (fun _ hn => absurd hn List.not_mem_nil)⟩) 1 rfl ?_
  show AW κ pX12_nextToken 2 (none, q) 0 [some (aR 12 0 0), none] [] σ
  refine aw_forget (L' := [some (aR 12 0 0), none]) (lsub_s (lsub_n (lsub_0))) ?_
  exact ok_X12_nextToken_0 FU σ _ h
def f_X12_w2 (v0 : Int32) (v1 : Int32) (σ : Sg) : Option (Int64 × Sg) :=
  some (((lshl (Int32.toInt64 v0) 8) ||| (Int32.toInt64 v1)), σ)
set_option maxRecDepth 100000 in
set_option maxHeartbeats 4000000 in
theorem ok_X12_w2 {κ : Kd} {v0 : Int32} {v1 : Int32} {σ : Sg} {q : (Int64 × Sg)} (h : f_X12_w2 v0 v1 σ = some q) : AMet κ pX12_w2 1 [aI v0, aI v1] σ (some (aL q.1), q.2) := by
  unfold f_X12_w2 at h
  refine amet_of okp_X12_w2 [(false, aI v0), (false, aI v1)] (List.forall_mem_cons.mpr ⟨rfl, List.forall_mem_cons.mpr ⟨rfl, (fun _ hn => absurd hn List.not_mem_nil)⟩⟩) 0 rfl ?_
  show AW κ pX12_w2 1 (some (aL q.1), q.2) 0 [some (aI v0), some (aI v1)] [] σ
  refine aw_seq [(.iload_n 0, 1, ax0), (.i2l, 1, ax0), (.bipush 8, 2, (axI 8)), (.lshl, 1, ax0), (.iload_n 1, 1, ax0), (.i2l, 1, ax0), (.lor, 1, ax0)] (pc' := 8) (L' := [some (aI v0), some (aI v1)]) (stk' := [aL ((lshl (Int32.toInt64 v0) 8) ||| (Int32.toInt64 v1))]) (σ' := σ) (g := []) (by decide +kernel) rfl rfl ?_
  cases h
  exact aw_lret rfl (by decide +kernel)
def f_X12_w3 (v0 : Int32) (v1 : Int32) (v2 : Int32) (σ : Sg) : Option (Int64 × Sg) :=
  bnd (f_X12_w2 v0 v1 σ) fun r3 σ2 =>
  some (((lshl r3 8) ||| (Int32.toInt64 v2)), σ2)
set_option maxRecDepth 100000 in
set_option maxHeartbeats 4000000 in
theorem ok_X12_w3 {κ : Kd} {v0 : Int32} {v1 : Int32} {v2 : Int32} {σ : Sg} {q : (Int64 × Sg)} (h : f_X12_w3 v0 v1 v2 σ = some q) : AMet κ pX12_w3 2 [aI v0, aI v1, aI v2] σ (some (aL q.1), q.2) := by
  unfold f_X12_w3 at h
  refine amet_of okp_X12_w3 [(false, aI v0), (false, aI v1), (false, aI v2)] (List.forall_mem_cons.mpr ⟨rfl, List.forall_mem_cons.mpr ⟨rfl, List.forall_mem_cons.mpr ⟨rfl, (fun _ hn => absurd hn List.not_mem_nil)⟩⟩⟩) 0 rfl ?_
  show AW κ pX12_w3 2 (some (aL q.1), q.2) 0 [some (aI v0), some (aI v1), some (aI v2)] [] σ
  refine aw_seq [(.iload_n 0, 1, ax0), (.iload_n 1, 1, ax0)] (pc' := 2) (L' := [some (aI v0), some (aI v1), some (aI v2)]) (stk' := [aI v1, aI v0]) (σ' := σ) (g := []) (by decide +kernel) rfl rfl ?_
  obtain ⟨r3, σ2, h1, h⟩ := bnd_some h
  refine aw_cS (P' := pX12_w2) (idx := 130) (d' := 1) [aI v0, aI v1] [] (ov := (some (aL r3))) (stk2 := [aL r3]) okp_X12_w2 (by decide +kernel) ml_RX12_130 tok_X12_w2 nar_X12_w2 (by decide) rfl (Nat.le_of_ble_eq_true rfl) (ok_X12_w2 h1) rfl ?_
  refine aw_seq [(.bipush 8, 2, (axI 8)), (.lshl, 1, ax0), (.iload_n 2, 1, ax0), (.i2l, 1, ax0), (.lor, 1, ax0)] (pc' := 11) (L' := [some (aI v0), some (aI v1), some (aI v2)]) (stk' := [aL ((lshl r3 8) ||| (Int32.toInt64 v2))]) (σ' := σ2) (g := []) (by decide +kernel) rfl rfl ?_
  cases h
  exact aw_lret rfl (by decide +kernel)
def f_X12_w4 (v0 : Int32) (v1 : Int32) (v2 : Int32) (v3 : Int32) (σ : Sg) : Option (Int64 × Sg) :=
  bnd (f_X12_w3 v0 v1 v2 σ) fun r3 σ2 =>
  some (((lshl r3 8) ||| (Int32.toInt64 v3)), σ2)
set_option maxRecDepth 100000 in
set_option maxHeartbeats 4000000 in
theorem ok_X12_w4 {κ : Kd} {v0 : Int32} {v1 : Int32} {v2 : Int32} {v3 : Int32} {σ : Sg} {q : (Int64 × Sg)} (h : f_X12_w4 v0 v1 v2 v3 σ = some q) : AMet κ pX12_w4 3 [aI v0, aI v1, aI v2, aI v3] σ (some (aL q.1), q.2) := by
  unfold f_X12_w4 at h
  refine amet_of okp_X12_w4 [(false, aI v0), (false, aI v1), (false, aI v2), (false, aI v3)] (List.forall_mem_cons.mpr ⟨rfl, List.forall_mem_cons.mpr ⟨rfl, List.forall_mem_cons.mpr ⟨rfl, List.forall_mem_cons.mpr ⟨rfl, (fun _ hn => absurd hn List.not_mem_nil)⟩⟩⟩⟩) 0 rfl ?_
  show AW κ pX12_w4 3 (some (aL q.1), q.2) 0 [some (aI v0), some (aI v1), some (aI v2), some (aI v3)] [] σ
  refine aw_seq [(.iload_n 0, 1, ax0), (.iload_n 1, 1, ax0), (.iload_n 2, 1, ax0)] (pc' := 3) (L' := [some (aI v0), some (aI v1), some (aI v2), some (aI v3)]) (stk' := [aI v2, aI v1, aI v0]) (σ' := σ) (g := []) (by decide +kernel) rfl rfl ?_
  obtain ⟨r3, σ2, h1, h⟩ := bnd_some h
  refine aw_cS (P' := pX12_w3) (idx := 134) (d' := 2) [aI v0, aI v1, aI v2] [] (ov := (some (aL r3))) (stk2 := [aL r3]) okp_X12_w3 (by decide +kernel) ml_RX12_134 tok_X12_w3 nar_X12_w3 (by decide) rfl (Nat.le_of_ble_eq_true rfl) (ok_X12_w3 h1) rfl ?_
  refine aw_seq [(.bipush 8, 2, (axI 8)), (.lshl, 1, ax0), (.iload_n 3, 1, ax0), (.i2l, 1, ax0), (.lor, 1, ax0)] (pc' := 12) (L' := [some (aI v0), some (aI v1), some (aI v2), some (aI v3)]) (stk' := [aL ((lshl r3 8) ||| (Int32.toInt64 v3))]) (σ' := σ2) (g := []) (by decide +kernel) rfl rfl ?_
  cases h
  exact aw_lret rfl (by decide +kernel)
def f_X12_w5 (v0 : Int32) (v1 : Int32) (v2 : Int32) (v3 : Int32) (v4 : Int32) (σ : Sg) : Option (Int64 × Sg) :=
  bnd (f_X12_w4 v0 v1 v2 v3 σ) fun r3 σ2 =>
  some (((lshl r3 8) ||| (Int32.toInt64 v4)), σ2)
set_option maxRecDepth 100000 in
set_option maxHeartbeats 4000000 in
theorem ok_X12_w5 {κ : Kd} {v0 : Int32} {v1 : Int32} {v2 : Int32} {v3 : Int32} {v4 : Int32} {σ : Sg} {q : (Int64 × Sg)} (h : f_X12_w5 v0 v1 v2 v3 v4 σ = some q) : AMet κ pX12_w5 4 [aI v0, aI v1, aI v2, aI v3, aI v4] σ (some (aL q.1), q.2) := by
  unfold f_X12_w5 at h
  refine amet_of okp_X12_w5 [(false, aI v0), (false, aI v1), (false, aI v2), (false, aI v3), (false, aI v4)] (List.forall_mem_cons.mpr ⟨rfl, List.forall_mem_cons.mpr ⟨rfl, List.forall_mem_cons.mpr ⟨rfl, List.forall_mem_cons.mpr ⟨rfl, List.forall_mem_cons.mpr ⟨rfl, (fun _ hn => absurd hn List.not_mem_nil)⟩⟩⟩⟩⟩) 0 rfl ?_
  show AW κ pX12_w5 4 (some (aL q.1), q.2) 0 [some (aI v0), some (aI v1), some (aI v2), some (aI v3), some (aI v4)] [] σ
  refine aw_seq [(.iload_n 0, 1, ax0), (.iload_n 1, 1, ax0), (.iload_n 2, 1, ax0), (.iload_n 3, 1, ax0)] (pc' := 4) (L' := [some (aI v0), some (aI v1), some (aI v2), some (aI v3), some (aI v4)]) (stk' := [aI v3, aI v2, aI v1, aI v0]) (σ' := σ) (g := []) (by decide +kernel) rfl rfl ?_
  obtain ⟨r3, σ2, h1, h⟩ := bnd_some h
  refine aw_cS (P' := pX12_w4) (idx := 138) (d' := 3) [aI v0, aI v1, aI v2, aI v3] [] (ov := (some (aL r3))) (stk2 := [aL r3]) okp_X12_w4 (by decide +kernel) ml_RX12_138 tok_X12_w4 nar_X12_w4 (by decide) rfl (Nat.le_of_ble_eq_true rfl) (ok_X12_w4 h1) rfl ?_
  refine aw_seq [(.bipush 8, 2, (axI 8)), (.lshl, 1, ax0), (.iload 4, 2, ax0), (.i2l, 1, ax0), (.lor, 1, ax0)] (pc' := 14) (L' := [some (aI v0), some (aI v1), some (aI v2), some (aI v3), some (aI v4)]) (stk' := [aL ((lshl r3 8) ||| (Int32.toInt64 v4))]) (σ' := σ2) (g := []) (by decide +kernel) rfl rfl ?_
  cases h
  exact aw_lret rfl (by decide +kernel)
def f_X12_w6 (v0 : Int32) (v1 : Int32) (v2 : Int32) (v3 : Int32) (v4 : Int32) (v5 : Int32) (σ : Sg) : Option (Int64 × Sg) :=
  bnd (f_X12_w5 v0 v1 v2 v3 v4 σ) fun r3 σ2 =>
  some (((lshl r3 8) ||| (Int32.toInt64 v5)), σ2)
set_option maxRecDepth 100000 in
set_option maxHeartbeats 4000000 in
theorem ok_X12_w6 {κ : Kd} {v0 : Int32} {v1 : Int32} {v2 : Int32} {v3 : Int32} {v4 : Int32} {v5 : Int32} {σ : Sg} {q : (Int64 × Sg)} (h : f_X12_w6 v0 v1 v2 v3 v4 v5 σ = some q) : AMet κ pX12_w6 5 [aI v0, aI v1, aI v2, aI v3, aI v4, aI v5] σ (some (aL q.1), q.2) := by
  unfold f_X12_w6 at h
  refine amet_of okp_X12_w6 [(false, aI v0), (false, aI v1), (false, aI v2), (false, aI v3), (false, aI v4), (false, aI v5)] (List.forall_mem_cons.mpr ⟨rfl, List.forall_mem_cons.mpr ⟨rfl, List.forall_mem_cons.mpr ⟨rfl, List.forall_mem_cons.mpr ⟨rfl, List.forall_mem_cons.mpr ⟨rfl, List.forall_mem_cons.mpr ⟨rfl, (fun _ hn => absurd hn List.not_mem_nil)⟩⟩⟩⟩⟩⟩) 0 rfl ?_
  show AW κ pX12_w6 5 (some (aL q.1), q.2) 0 [some (aI v0), some (aI v1), some (aI v2), some (aI v3), some (aI v4), some (aI v5)] [] σ
  refine aw_seq [(.iload_n 0, 1, ax0), (.iload_n 1, 1, ax0), (.iload_n 2, 1, ax0), (.iload_n 3, 1, ax0), (.iload 4, 2, ax0)] (pc' := 6) (L' := [some (aI v0), some (aI v1), some (aI v2), some (aI v3), some (aI v4), some (aI v5)]) (stk' := [aI v4, aI v3, aI v2, aI v1, aI v0]) (σ' := σ) (g := []) (by decide +kernel) rfl rfl ?_
  obtain ⟨r3, σ2, h1, h⟩ := bnd_some h
  refine aw_cS (P' := pX12_w5) (idx := 142) (d' := 4) [aI v0, aI v1, aI v2, aI v3, aI v4] [] (ov := (some (aL r3))) (stk2 := [aL r3]) okp_X12_w5 (by decide +kernel) ml_RX12_142 tok_X12_w5 nar_X12_w5 (by decide) rfl (Nat.le_of_ble_eq_true rfl) (ok_X12_w5 h1) rfl ?_
  refine aw_seq [(.bipush 8, 2, (axI 8)), (.lshl, 1, ax0), (.iload 5, 2, ax0), (.i2l, 1, ax0), (.lor, 1, ax0)] (pc' := 16) (L' := [some (aI v0), some (aI v1), some (aI v2), some (aI v3), some (aI v4), some (aI v5)]) (stk' := [aL ((lshl r3 8) ||| (Int32.toInt64 v5))]) (σ' := σ2) (g := []) (by decide +kernel) rfl rfl ?_
  cases h
  exact aw_lret rfl (by decide +kernel)
def f_X12_isWord_22   (s0 : Int32) (σ : Sg) : Option (Int32 × Sg) :=
  grd (bz s0) <| some (s0, σ)
set_option maxRecDepth 100000 in
set_option maxHeartbeats 4000000 in
theorem ok_X12_isWord_22 {κ : Kd}    : ∀ (s0 : Int32) (σ : Sg) (q : (Int32 × Sg)), f_X12_isWord_22 s0 σ = some q → AW κ pX12_isWord 1 (some (aI q.1), q.2) 22 [none, none, none] [aI s0] σ := by
  intro s0 σ q h
  unfold f_X12_isWord_22 at h
  obtain ⟨hg, h⟩ := grd_some h
  cases h
  exact aw_zret rfl hg (by decide +kernel)
def f_X12_isWord_21    (σ : Sg) : Option (Int32 × Sg) :=
  f_X12_isWord_22 0 σ
set_option maxRecDepth 100000 in
set_option maxHeartbeats 4000000 in
theorem ok_X12_isWord_21 {κ : Kd}    : ∀  (σ : Sg) (q : (Int32 × Sg)), f_X12_isWord_21  σ = some q → AW κ pX12_isWord 1 (some (aI q.1), q.2) 21 [none, none, none] [] σ := by
  intro  σ q h
  unfold f_X12_isWord_21 at h
  refine aw_seq [(.iconst 0, 1, (axI 0))] (pc' := 22) (L' := [none, none, none]) (stk' := [aI 0]) (σ' := σ) (g := []) (by decide +kernel) rfl rfl ?_
  refine aw_forget (L' := [none, none, none]) (lsub_n (lsub_n (lsub_n (lsub_0)))) ?_
  exact ok_X12_isWord_22 0 σ _ h
def f_X12_isWord (v1 : Int64) (σ : Sg) : Option (Int32 × Sg) :=
  if (σ.1 0 9) = 2 then (
    if (lg_cmp (σ.2.1 0 11) v1) = 0 then (
      f_X12_isWord_22 1 σ
    ) else (
      f_X12_isWord_21 σ
    )
  ) else (
    f_X12_isWord_21 σ
  )
set_option maxRecDepth 100000 in
set_option maxHeartbeats 4000000 in
theorem ok_X12_isWord {κ : Kd} {v1 : Int64} {σ : Sg} {q : (Int32 × Sg)} (h : f_X12_isWord v1 σ = some q) : AMet κ pX12_isWord 1 [aR 12 0 0, aL v1] σ (some (aI q.1), q.2) := by
  unfold f_X12_isWord at h
  refine amet_of okp_X12_isWord [(false, aR 12 0 0), (true, aL v1)] (List.forall_mem_cons.mpr ⟨rfl, List.forall_mem_cons.mpr ⟨rfl, (fun _ hn => absurd hn List.not_mem_nil)⟩⟩) 0 rfl ?_
  show AW κ pX12_isWord 1 (some (aI q.1), q.2) 0 [some (aR 12 0 0), some (aL v1), none] [] σ
  refine aw_seq [(.aload_n 0, 1, ax0), (.getfield 108, 3, (axF 12 9 (0, 0, 0, none))), (.iconst 2, 1, (axI 2))] (pc' := 5) (L' := [some (aR 12 0 0), some (aL v1), none]) (stk' := [aI 2, aI (σ.1 0 9)]) (σ' := σ) (g := []) (by decide +kernel) rfl rfl ?_
  refine aw_icmp_ne (off := 16) (tgt := 21) (by decide +kernel) (by decide) (fun c1 => ?_) (fun c1 => ?_)
  · rw [if_neg c1] at h
    refine aw_forget (L' := [none, none, none]) (lsub_n (lsub_n (lsub_n (lsub_0)))) ?_
    exact ok_X12_isWord_21 σ _ h
  · rw [if_pos c1] at h
    refine aw_seq [(.aload_n 0, 1, ax0), (.getfield 121, 3, (axF 12 11 (1, 0, 0, none))), (.lload_n 1, 1, ax0), (.lcmp, 1, ax0)] (pc' := 14) (L' := [some (aR 12 0 0), some (aL v1), none]) (stk' := [aI (lg_cmp (σ.2.1 0 11) v1)]) (σ' := σ) (g := []) (by decide +kernel) rfl rfl ?_
    refine aw_if_ne (off := 7) (tgt := 21) (by decide +kernel) (by decide) (fun c1 => ?_) (fun c1 => ?_)
    · rw [if_neg c1] at h
      refine aw_forget (L' := [none, none, none]) (lsub_n (lsub_n (lsub_n (lsub_0)))) ?_
      exact ok_X12_isWord_21 σ _ h
    · rw [if_pos c1] at h
      refine aw_seq [(.iconst 1, 1, (axI 1))] (pc' := 18) (L' := [some (aR 12 0 0), some (aL v1), none]) (stk' := [aI 1]) (σ' := σ) (g := []) (by decide +kernel) rfl rfl ?_
      refine aw_goto (off := 4) (tgt := 22) (by decide +kernel) (by decide) ?_
      refine aw_forget (L' := [none, none, none]) (lsub_n (lsub_n (lsub_n (lsub_0)))) ?_
      exact ok_X12_isWord_22 1 σ _ h
def f_X12_emit (v1 : Int32) (v2 : Int32) (σ : Sg) : Option Sg :=
  grd (inb (((σ.1 0 12) + 97) + (2 * (σ.1 0 13))) 2820 && true) <|
  ltσ (wI σ 3 (ix (((σ.1 0 12) + 97) + (2 * (σ.1 0 13)))) v1) fun σ1 =>
  grd (inb ((((σ1.1 0 12) + 97) + (2 * (σ1.1 0 13))) + 1) 2820 && true) <|
  ltσ (wI σ1 3 (ix ((((σ1.1 0 12) + 97) + (2 * (σ1.1 0 13))) + 1)) v2) fun σ3 =>
  ltσ (wI σ3 0 13 ((σ3.1 0 13) + 1)) fun σ5 =>
  some σ5
set_option maxRecDepth 100000 in
set_option maxHeartbeats 4000000 in
theorem ok_X12_emit {κ : Kd} {v1 : Int32} {v2 : Int32} {σ : Sg} {q : Sg} (h : f_X12_emit v1 v2 σ = some q) : AMet κ pX12_emit 1 [aR 12 0 0, aI v1, aI v2] σ (none, q) := by
  unfold f_X12_emit at h
  refine amet_of okp_X12_emit [(false, aR 12 0 0), (false, aI v1), (false, aI v2)] (List.forall_mem_cons.mpr ⟨rfl, List.forall_mem_cons.mpr ⟨rfl, List.forall_mem_cons.mpr ⟨rfl, (fun _ hn => absurd hn List.not_mem_nil)⟩⟩⟩) 0 rfl ?_
  show AW κ pX12_emit 1 (none, q) 0 [some (aR 12 0 0), some (aI v1), some (aI v2)] [] σ
  obtain ⟨hg, h⟩ := grd_some h
  obtain ⟨σ1, e2, h⟩ := ltσ_some h
  refine aw_seq [(.aload_n 0, 1, ax0), (.getfield 16, 3, (axF 12 2 (2, 3, 13, some 2820))), (.aload_n 0, 1, ax0), (.getfield 146, 3, (axF 12 12 (0, 0, 0, none))), (.bipush 97, 2, (axI 97)), (.iadd, 1, ax0), (.iconst 2, 1, (axI 2)), (.aload_n 0, 1, ax0), (.getfield 149, 3, (axF 12 13 (0, 0, 0, none))), (.imul, 1, ax0), (.iadd, 1, ax0), (.iload_n 1, 1, ax0), (.iastore, 1, ax0)] (pc' := 20) (L' := [some (aR 12 0 0), some (aI v1), some (aI v2)]) (stk' := []) (σ' := σ1) (g := [inb (((σ.1 0 12) + 97) + (2 * (σ.1 0 13))) 2820]) (by decide +kernel) (by rw [e2]; rfl) hg ?_
  obtain ⟨hg, h⟩ := grd_some h
  obtain ⟨σ3, e4, h⟩ := ltσ_some h
  refine aw_seq [(.aload_n 0, 1, ax0), (.getfield 16, 3, (axF 12 2 (2, 3, 13, some 2820))), (.aload_n 0, 1, ax0), (.getfield 146, 3, (axF 12 12 (0, 0, 0, none))), (.bipush 97, 2, (axI 97)), (.iadd, 1, ax0), (.iconst 2, 1, (axI 2)), (.aload_n 0, 1, ax0), (.getfield 149, 3, (axF 12 13 (0, 0, 0, none))), (.imul, 1, ax0), (.iadd, 1, ax0), (.iconst 1, 1, (axI 1)), (.iadd, 1, ax0), (.iload_n 2, 1, ax0), (.iastore, 1, ax0)] (pc' := 42) (L' := [some (aR 12 0 0), some (aI v1), some (aI v2)]) (stk' := []) (σ' := σ3) (g := [inb ((((σ1.1 0 12) + 97) + (2 * (σ1.1 0 13))) + 1) 2820]) (by decide +kernel) (by rw [e4]; rfl) hg ?_
  obtain ⟨σ5, e6, h⟩ := ltσ_some h
  refine aw_seq [(.aload_n 0, 1, ax0), (.dup, 1, ax0), (.getfield 149, 3, (axF 12 13 (0, 0, 0, none))), (.iconst 1, 1, (axI 1)), (.iadd, 1, ax0), (.putfield 149, 3, (axF 12 13 (0, 0, 0, none)))] (pc' := 52) (L' := [some (aR 12 0 0), some (aI v1), some (aI v2)]) (stk' := []) (σ' := σ5) (g := []) (by decide +kernel) (by rw [e6]; rfl) rfl ?_
  cases h
  exact aw_vret rfl (by decide +kernel)
