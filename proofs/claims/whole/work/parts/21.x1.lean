/-! printed by wip/whole/gen4.py from the class file: ofOne, ofTwo, pop, push, argument, behindSigns, firstSign, sign, value, without, rate, bitCount, near, housesBy, visit, textOf, rule, warden, nextX, draw, catches, pass -/
def f_X1_ofOne_57 (t : Nat)  (s0 : Int32) (σ : Sg) : Option (Int32 × Sg) :=
  some (s0, σ)
set_option maxRecDepth 100000 in
set_option maxHeartbeats 4000000 in
theorem ok_X1_ofOne_57 {κ : Kd} {t : Nat}   : ∀ (s0 : Int32) (σ : Sg) (q : (Int32 × Sg)), f_X1_ofOne_57 t s0 σ = some q → AW κ pX1_ofOne 2 (some (aI q.1), q.2) 57 [none, none, none] [aI s0] σ := by
  intro s0 σ q h
  unfold f_X1_ofOne_57 at h
  cases h
  exact aw_iret rfl (by decide +kernel)
def f_X1_ofOne_67 (t : Nat)  (s0 : Int32) (σ : Sg) : Option (Int32 × Sg) :=
  some (s0, σ)
set_option maxRecDepth 100000 in
set_option maxHeartbeats 4000000 in
theorem ok_X1_ofOne_67 {κ : Kd} {t : Nat}   : ∀ (s0 : Int32) (σ : Sg) (q : (Int32 × Sg)), f_X1_ofOne_67 t s0 σ = some q → AW κ pX1_ofOne 2 (some (aI q.1), q.2) 67 [none, none, none] [aI s0] σ := by
  intro s0 σ q h
  unfold f_X1_ofOne_67 at h
  cases h
  exact aw_iret rfl (by decide +kernel)
def f_X1_ofOne (t : Nat) (v1 : Int32) (v2 : Int32) (σ : Sg) : Option (Int32 × Sg) :=
  if v1 = 46 then (
    some ((-v2), σ)
  ) else (
  if v1 = 47 then (
    bnd (f_X8_told t v2 σ) fun r3 σ2 =>
    if r3 = 0 then (
      f_X1_ofOne_57 t 0 σ2
    ) else (
      grd (inb v2 8 && true) <|
      f_X1_ofOne_57 t (σ2.1 (t + 4) (ix v2)) σ2
    )
  ) else (
  if v1 = 48 then (
    if v2 = 0 then (
      f_X1_ofOne_67 t 1 σ
    ) else (
      f_X1_ofOne_67 t 0 σ
    )
  ) else (
  if v1 = 49 then (
    some ((v2 &&& 1), σ)
  ) else (
  if v1 = 50 then (
    some (((v2 ^^^ (-1)) &&& 1), σ)
  ) else (
    some (0, σ)
  )))))
set_option maxRecDepth 100000 in
set_option maxHeartbeats 4000000 in
theorem ok_X1_ofOne {κ : Kd} {t : Nat} {v1 : Int32} {v2 : Int32} {σ : Sg} {q : (Int32 × Sg)} (h : f_X1_ofOne t v1 v2 σ = some q) : AMet κ pX1_ofOne 2 [aR 8 0 t, aI v1, aI v2] σ (some (aI q.1), q.2) := by
  unfold f_X1_ofOne at h
  refine amet_of okp_X1_ofOne [(false, aR 8 0 t), (false, aI v1), (false, aI v2)] (List.forall_mem_cons.mpr ⟨rfl, List.forall_mem_cons.mpr ⟨rfl, List.forall_mem_cons.mpr ⟨rfl, (fun _ hn => absurd hn List.not_mem_nil)⟩⟩⟩) 0 rfl ?_
  show AW κ pX1_ofOne 2 (some (aI q.1), q.2) 0 [some (aR 8 0 t), some (aI v1), some (aI v2)] [] σ
  refine aw_seq [(.iload_n 1, 1, ax0)] (pc' := 1) (L' := [some (aR 8 0 t), some (aI v1), some (aI v2)]) (stk' := [aI v1]) (σ' := σ) (g := []) (by decide +kernel) rfl rfl ?_
  refine aw_table (dflt := 77) (lo := 46) (hi := 50) (offs := #[35, 38, 57, 67, 71]) (len := 35) (dt := 78) (by decide +kernel) [(46, 36), (47, 39), (48, 58), (49, 68), (50, 72)] (by decide +kernel) ?_
  refine awsw_cons (fun c1 => ?_) (fun c1 => ?_)
  · rw [if_pos c1] at h
    refine aw_seq [(.iload_n 2, 1, ax0), (.ineg, 1, ax0)] (pc' := 38) (L' := [some (aR 8 0 t), some (aI v1), some (aI v2)]) (stk' := [aI (-v2)]) (σ' := σ) (g := []) (by decide +kernel) rfl rfl ?_
    cases h
    exact aw_iret rfl (by decide +kernel)
  rw [if_neg c1] at h
  refine awsw_cons (fun c1 => ?_) (fun c1 => ?_)
  · rw [if_pos c1] at h
    refine aw_seq [(.aload_n 0, 1, ax0), (.iload_n 2, 1, ax0)] (pc' := 41) (L' := [some (aR 8 0 t), some (aI v1), some (aI v2)]) (stk' := [aI v2, aR 8 0 t]) (σ' := σ) (g := []) (by decide +kernel) rfl rfl ?_
    obtain ⟨r3, σ2, h1, h⟩ := bnd_some h
    refine aw_cV (P' := pX8_told) (idx := 129) (d' := 1) (c := 8) (n := 0) (k := t) [aI v2] [] (ov := (some (aI r3))) (stk2 := [aI r3]) okp_X8_told (by decide +kernel) ml_RX1_129 vok_X8_told (by decide) rfl nar_X8_told (by decide) rfl (Nat.le_of_ble_eq_true rfl) (ok_X8_told h1) rfl ?_
    refine aw_if_eq (off := 12) (tgt := 56) (by decide +kernel) (by decide) (fun c1 => ?_) (fun c1 => ?_)
    · rw [if_pos c1] at h
      refine aw_seq [(.iconst 0, 1, (axI 0))] (pc' := 57) (L' := [some (aR 8 0 t), some (aI v1), some (aI v2)]) (stk' := [aI 0]) (σ' := σ2) (g := []) (by decide +kernel) rfl rfl ?_
      refine aw_forget (L' := [none, none, none]) (lsub_n (lsub_n (lsub_n (lsub_0)))) ?_
      exact ok_X1_ofOne_57 0 σ2 _ h
    · rw [if_neg c1] at h
      obtain ⟨hg, h⟩ := grd_some h
      refine aw_seq [(.aload_n 0, 1, ax0), (.getfield 56, 3, (axF 8 4 (2, 4, 13, some 8))), (.iload_n 2, 1, ax0), (.iaload, 1, ax0)] (pc' := 53) (L' := [some (aR 8 0 t), some (aI v1), some (aI v2)]) (stk' := [aI (σ2.1 (t + 4) (ix v2))]) (σ' := σ2) (g := [inb v2 8]) (by decide +kernel) rfl hg ?_
      refine aw_goto (off := 4) (tgt := 57) (by decide +kernel) (by decide) ?_
      refine aw_forget (L' := [none, none, none]) (lsub_n (lsub_n (lsub_n (lsub_0)))) ?_
      exact ok_X1_ofOne_57 (σ2.1 (t + 4) (ix v2)) σ2 _ h
  rw [if_neg c1] at h
  refine awsw_cons (fun c1 => ?_) (fun c1 => ?_)
  · rw [if_pos c1] at h
    refine aw_seq [(.iload_n 2, 1, ax0)] (pc' := 59) (L' := [some (aR 8 0 t), some (aI v1), some (aI v2)]) (stk' := [aI v2]) (σ' := σ) (g := []) (by decide +kernel) rfl rfl ?_
    refine aw_if_ne (off := 7) (tgt := 66) (by decide +kernel) (by decide) (fun c1 => ?_) (fun c1 => ?_)
    · rw [if_neg c1] at h
      refine aw_seq [(.iconst 0, 1, (axI 0))] (pc' := 67) (L' := [some (aR 8 0 t), some (aI v1), some (aI v2)]) (stk' := [aI 0]) (σ' := σ) (g := []) (by decide +kernel) rfl rfl ?_
      refine aw_forget (L' := [none, none, none]) (lsub_n (lsub_n (lsub_n (lsub_0)))) ?_
      exact ok_X1_ofOne_67 0 σ _ h
    · rw [if_pos c1] at h
      refine aw_seq [(.iconst 1, 1, (axI 1))] (pc' := 63) (L' := [some (aR 8 0 t), some (aI v1), some (aI v2)]) (stk' := [aI 1]) (σ' := σ) (g := []) (by decide +kernel) rfl rfl ?_
      refine aw_goto (off := 4) (tgt := 67) (by decide +kernel) (by decide) ?_
      refine aw_forget (L' := [none, none, none]) (lsub_n (lsub_n (lsub_n (lsub_0)))) ?_
      exact ok_X1_ofOne_67 1 σ _ h
  rw [if_neg c1] at h
  refine awsw_cons (fun c1 => ?_) (fun c1 => ?_)
  · rw [if_pos c1] at h
    refine aw_seq [(.iload_n 2, 1, ax0), (.iconst 1, 1, (axI 1)), (.iand, 1, ax0)] (pc' := 71) (L' := [some (aR 8 0 t), some (aI v1), some (aI v2)]) (stk' := [aI (v2 &&& 1)]) (σ' := σ) (g := []) (by decide +kernel) rfl rfl ?_
    cases h
    exact aw_iret rfl (by decide +kernel)
  rw [if_neg c1] at h
  refine awsw_cons (fun c1 => ?_) (fun c1 => ?_)
  · rw [if_pos c1] at h
    refine aw_seq [(.iload_n 2, 1, ax0), (.iconst (-1), 1, (axI (-1))), (.ixor, 1, ax0), (.iconst 1, 1, (axI 1)), (.iand, 1, ax0)] (pc' := 77) (L' := [some (aR 8 0 t), some (aI v1), some (aI v2)]) (stk' := [aI ((v2 ^^^ (-1)) &&& 1)]) (σ' := σ) (g := []) (by decide +kernel) rfl rfl ?_
    cases h
    exact aw_iret rfl (by decide +kernel)
  rw [if_neg c1] at h
  refine awsw_nil ?_
  refine aw_seq [(.iconst 0, 1, (axI 0))] (pc' := 79) (L' := [some (aR 8 0 t), some (aI v1), some (aI v2)]) (stk' := [aI 0]) (σ' := σ) (g := []) (by decide +kernel) rfl rfl ?_
  cases h
  exact aw_iret rfl (by decide +kernel)
def f_X1_ofTwo_209   (v3 : Int64) (σ : Sg) : Option (Int32 × Sg) :=
  some ((Int64.toInt32 (lmax (-1000000) (lmin 1000000 v3))), σ)
set_option maxRecDepth 100000 in
set_option maxHeartbeats 4000000 in
theorem ok_X1_ofTwo_209 {κ : Kd}    : ∀ (v3 : Int64) (σ : Sg) (q : (Int32 × Sg)), f_X1_ofTwo_209 v3 σ = some q → AW κ pX1_ofTwo 2 (some (aI q.1), q.2) 209 [none, none, none, some (aL v3), none] [] σ := by
  intro v3 σ q h
  unfold f_X1_ofTwo_209 at h
  refine aw_seq [(.ldc2_w 132, 3, (axL (-1000000))), (.ldc2_w 134, 3, (axL 1000000)), (.lload_n 3, 1, ax0)] (pc' := 216) (L' := [none, none, none, some (aL v3), none]) (stk' := [aL v3, aL 1000000, aL (-1000000)]) (σ' := σ) (g := []) (by decide +kernel) rfl rfl ?_
  refine aw_lmin (idx := 136) (by decide) (Nat.le_of_ble_eq_true rfl) jw_lmin ml_RX1_136 (by decide +kernel) ?_
  refine aw_lmax (idx := 139) (by decide) (Nat.le_of_ble_eq_true rfl) jw_lmax ml_RX1_139 (by decide +kernel) ?_
  refine aw_seq [(.l2i, 1, ax0)] (pc' := 223) (L' := [none, none, none, some (aL v3), none]) (stk' := [aI (Int64.toInt32 (lmax (-1000000) (lmin 1000000 v3)))]) (σ' := σ) (g := []) (by decide +kernel) rfl rfl ?_
  cases h
  exact aw_iret rfl (by decide +kernel)
def f_X1_ofTwo_117   (s0 : Int64) (σ : Sg) : Option (Int32 × Sg) :=
  f_X1_ofTwo_209 s0 σ
set_option maxRecDepth 100000 in
set_option maxHeartbeats 4000000 in
theorem ok_X1_ofTwo_117 {κ : Kd}    : ∀ (s0 : Int64) (σ : Sg) (q : (Int32 × Sg)), f_X1_ofTwo_117 s0 σ = some q → AW κ pX1_ofTwo 2 (some (aI q.1), q.2) 117 [none, none, none, none, none] [aL s0] σ := by
  intro s0 σ q h
  unfold f_X1_ofTwo_117 at h
  refine aw_seq [(.lstore_n 3, 1, ax0)] (pc' := 118) (L' := [none, none, none, some (aL s0), none]) (stk' := []) (σ' := σ) (g := []) (by decide +kernel) rfl rfl ?_
  refine aw_goto (off := 91) (tgt := 209) (by decide +kernel) (by decide) ?_
  refine aw_forget (L' := [none, none, none, some (aL s0), none]) (lsub_n (lsub_n (lsub_n (lsub_s (lsub_n (lsub_0)))))) ?_
  exact ok_X1_ofTwo_209 s0 σ _ h
def f_X1_ofTwo_131   (s0 : Int64) (σ : Sg) : Option (Int32 × Sg) :=
  f_X1_ofTwo_209 s0 σ
set_option maxRecDepth 100000 in
set_option maxHeartbeats 4000000 in
theorem ok_X1_ofTwo_131 {κ : Kd}    : ∀ (s0 : Int64) (σ : Sg) (q : (Int32 × Sg)), f_X1_ofTwo_131 s0 σ = some q → AW κ pX1_ofTwo 2 (some (aI q.1), q.2) 131 [none, none, none, none, none] [aL s0] σ := by
  intro s0 σ q h
  unfold f_X1_ofTwo_131 at h
  refine aw_seq [(.lstore_n 3, 1, ax0)] (pc' := 132) (L' := [none, none, none, some (aL s0), none]) (stk' := []) (σ' := σ) (g := []) (by decide +kernel) rfl rfl ?_
  refine aw_goto (off := 77) (tgt := 209) (by decide +kernel) (by decide) ?_
  refine aw_forget (L' := [none, none, none, some (aL s0), none]) (lsub_n (lsub_n (lsub_n (lsub_s (lsub_n (lsub_0)))))) ?_
  exact ok_X1_ofTwo_209 s0 σ _ h
def f_X1_ofTwo_145   (s0 : Int64) (σ : Sg) : Option (Int32 × Sg) :=
  f_X1_ofTwo_209 s0 σ
set_option maxRecDepth 100000 in
set_option maxHeartbeats 4000000 in
theorem ok_X1_ofTwo_145 {κ : Kd}    : ∀ (s0 : Int64) (σ : Sg) (q : (Int32 × Sg)), f_X1_ofTwo_145 s0 σ = some q → AW κ pX1_ofTwo 2 (some (aI q.1), q.2) 145 [none, none, none, none, none] [aL s0] σ := by
  intro s0 σ q h
  unfold f_X1_ofTwo_145 at h
  refine aw_seq [(.lstore_n 3, 1, ax0)] (pc' := 146) (L' := [none, none, none, some (aL s0), none]) (stk' := []) (σ' := σ) (g := []) (by decide +kernel) rfl rfl ?_
  refine aw_goto (off := 63) (tgt := 209) (by decide +kernel) (by decide) ?_
  refine aw_forget (L' := [none, none, none, some (aL s0), none]) (lsub_n (lsub_n (lsub_n (lsub_s (lsub_n (lsub_0)))))) ?_
  exact ok_X1_ofTwo_209 s0 σ _ h
def f_X1_ofTwo_159   (s0 : Int64) (σ : Sg) : Option (Int32 × Sg) :=
  f_X1_ofTwo_209 s0 σ
set_option maxRecDepth 100000 in
set_option maxHeartbeats 4000000 in
theorem ok_X1_ofTwo_159 {κ : Kd}    : ∀ (s0 : Int64) (σ : Sg) (q : (Int32 × Sg)), f_X1_ofTwo_159 s0 σ = some q → AW κ pX1_ofTwo 2 (some (aI q.1), q.2) 159 [none, none, none, none, none] [aL s0] σ := by
  intro s0 σ q h
  unfold f_X1_ofTwo_159 at h
  refine aw_seq [(.lstore_n 3, 1, ax0)] (pc' := 160) (L' := [none, none, none, some (aL s0), none]) (stk' := []) (σ' := σ) (g := []) (by decide +kernel) rfl rfl ?_
  refine aw_goto (off := 49) (tgt := 209) (by decide +kernel) (by decide) ?_
  refine aw_forget (L' := [none, none, none, some (aL s0), none]) (lsub_n (lsub_n (lsub_n (lsub_s (lsub_n (lsub_0)))))) ?_
  exact ok_X1_ofTwo_209 s0 σ _ h
def f_X1_ofTwo_173   (s0 : Int64) (σ : Sg) : Option (Int32 × Sg) :=
  f_X1_ofTwo_209 s0 σ
set_option maxRecDepth 100000 in
set_option maxHeartbeats 4000000 in
theorem ok_X1_ofTwo_173 {κ : Kd}    : ∀ (s0 : Int64) (σ : Sg) (q : (Int32 × Sg)), f_X1_ofTwo_173 s0 σ = some q → AW κ pX1_ofTwo 2 (some (aI q.1), q.2) 173 [none, none, none, none, none] [aL s0] σ := by
  intro s0 σ q h
  unfold f_X1_ofTwo_173 at h
  refine aw_seq [(.lstore_n 3, 1, ax0)] (pc' := 174) (L' := [none, none, none, some (aL s0), none]) (stk' := []) (σ' := σ) (g := []) (by decide +kernel) rfl rfl ?_
  refine aw_goto (off := 35) (tgt := 209) (by decide +kernel) (by decide) ?_
  refine aw_forget (L' := [none, none, none, some (aL s0), none]) (lsub_n (lsub_n (lsub_n (lsub_s (lsub_n (lsub_0)))))) ?_
  exact ok_X1_ofTwo_209 s0 σ _ h
def f_X1_ofTwo_187   (s0 : Int64) (σ : Sg) : Option (Int32 × Sg) :=
  f_X1_ofTwo_209 s0 σ
set_option maxRecDepth 100000 in
set_option maxHeartbeats 4000000 in
theorem ok_X1_ofTwo_187 {κ : Kd}    : ∀ (s0 : Int64) (σ : Sg) (q : (Int32 × Sg)), f_X1_ofTwo_187 s0 σ = some q → AW κ pX1_ofTwo 2 (some (aI q.1), q.2) 187 [none, none, none, none, none] [aL s0] σ := by
  intro s0 σ q h
  unfold f_X1_ofTwo_187 at h
  refine aw_seq [(.lstore_n 3, 1, ax0)] (pc' := 188) (L' := [none, none, none, some (aL s0), none]) (stk' := []) (σ' := σ) (g := []) (by decide +kernel) rfl rfl ?_
  refine aw_goto (off := 21) (tgt := 209) (by decide +kernel) (by decide) ?_
  refine aw_forget (L' := [none, none, none, some (aL s0), none]) (lsub_n (lsub_n (lsub_n (lsub_s (lsub_n (lsub_0)))))) ?_
  exact ok_X1_ofTwo_209 s0 σ _ h
def f_X1_ofTwo_103   (s0 : Int64) (σ : Sg) : Option (Int32 × Sg) :=
  f_X1_ofTwo_209 s0 σ
set_option maxRecDepth 100000 in
set_option maxHeartbeats 4000000 in
theorem ok_X1_ofTwo_103 {κ : Kd}    : ∀ (s0 : Int64) (σ : Sg) (q : (Int32 × Sg)), f_X1_ofTwo_103 s0 σ = some q → AW κ pX1_ofTwo 2 (some (aI q.1), q.2) 103 [none, none, none, none, none] [aL s0] σ := by
  intro s0 σ q h
  unfold f_X1_ofTwo_103 at h
  refine aw_seq [(.lstore_n 3, 1, ax0)] (pc' := 104) (L' := [none, none, none, some (aL s0), none]) (stk' := []) (σ' := σ) (g := []) (by decide +kernel) rfl rfl ?_
  refine aw_goto (off := 105) (tgt := 209) (by decide +kernel) (by decide) ?_
  refine aw_forget (L' := [none, none, none, some (aL s0), none]) (lsub_n (lsub_n (lsub_n (lsub_s (lsub_n (lsub_0)))))) ?_
  exact ok_X1_ofTwo_209 s0 σ _ h
def f_X1_ofTwo (v0 : Int32) (v1 : Int32) (v2 : Int32) (σ : Sg) : Option (Int32 × Sg) :=
  if v0 = 28 then (
    f_X1_ofTwo_209 (Int32.toInt64 (v1 &&& v2)) σ
  ) else (
  if v0 = 29 then (
    f_X1_ofTwo_209 (Int32.toInt64 (v1 ||| v2)) σ
  ) else (
  if v0 = 30 then (
    if v2 ≤ v1 then (
      f_X1_ofTwo_117 0 σ
    ) else (
      f_X1_ofTwo_117 1 σ
    )
  ) else (
  if v0 = 31 then (
    if v2 < v1 then (
      f_X1_ofTwo_131 0 σ
    ) else (
      f_X1_ofTwo_131 1 σ
    )
  ) else (
  if v0 = 32 then (
    if v1 ≤ v2 then (
      f_X1_ofTwo_145 0 σ
    ) else (
      f_X1_ofTwo_145 1 σ
    )
  ) else (
  if v0 = 33 then (
    if v1 < v2 then (
      f_X1_ofTwo_159 0 σ
    ) else (
      f_X1_ofTwo_159 1 σ
    )
  ) else (
  if v0 = 34 then (
    if v1 = v2 then (
      f_X1_ofTwo_173 1 σ
    ) else (
      f_X1_ofTwo_173 0 σ
    )
  ) else (
  if v0 = 35 then (
    if v1 = v2 then (
      f_X1_ofTwo_187 0 σ
    ) else (
      f_X1_ofTwo_187 1 σ
    )
  ) else (
  if v0 = 36 then (
    f_X1_ofTwo_209 ((Int32.toInt64 v1) + (Int32.toInt64 v2)) σ
  ) else (
  if v0 = 37 then (
    f_X1_ofTwo_209 ((Int32.toInt64 v1) - (Int32.toInt64 v2)) σ
  ) else (
  if v0 = 38 then (
    f_X1_ofTwo_209 ((Int32.toInt64 v1) * (Int32.toInt64 v2)) σ
  ) else (
  if v0 = 39 then (
    if v2 = 0 then (
      f_X1_ofTwo_103 0 σ
    ) else (
      grd ((!decide (v2 = 0)) && true) <|
      f_X1_ofTwo_103 (Int32.toInt64 (v1 / v2)) σ
    )
  ) else (
    f_X1_ofTwo_209 0 σ
  ))))))))))))
set_option maxRecDepth 100000 in
set_option maxHeartbeats 4000000 in
theorem ok_X1_ofTwo {κ : Kd} {v0 : Int32} {v1 : Int32} {v2 : Int32} {σ : Sg} {q : (Int32 × Sg)} (h : f_X1_ofTwo v0 v1 v2 σ = some q) : AMet κ pX1_ofTwo 2 [aI v0, aI v1, aI v2] σ (some (aI q.1), q.2) := by
  unfold f_X1_ofTwo at h
  refine amet_of okp_X1_ofTwo [(false, aI v0), (false, aI v1), (false, aI v2)] (List.forall_mem_cons.mpr ⟨rfl, List.forall_mem_cons.mpr ⟨rfl, List.forall_mem_cons.mpr ⟨rfl, (fun _ hn => absurd hn List.not_mem_nil)⟩⟩⟩) 2 rfl ?_
  show AW κ pX1_ofTwo 2 (some (aI q.1), q.2) 0 [some (aI v0), some (aI v1), some (aI v2), none, none] [] σ
  refine aw_seq [(.iload_n 0, 1, ax0)] (pc' := 1) (L' := [some (aI v0), some (aI v1), some (aI v2), none, none]) (stk' := [aI v0]) (σ' := σ) (g := []) (by decide +kernel) rfl rfl ?_
  refine aw_table (dflt := 206) (lo := 28) (hi := 39) (offs := #[190, 198, 106, 120, 134, 148, 162, 176, 63, 72, 81, 90]) (len := 63) (dt := 207) (by decide +kernel) [(28, 191), (29, 199), (30, 107), (31, 121), (32, 135), (33, 149), (34, 163), (35, 177), (36, 64), (37, 73), (38, 82), (39, 91)] (by decide +kernel) ?_
  refine awsw_cons (fun c1 => ?_) (fun c1 => ?_)
  · rw [if_pos c1] at h
    refine aw_seq [(.iload_n 1, 1, ax0), (.iload_n 2, 1, ax0), (.iand, 1, ax0), (.i2l, 1, ax0), (.lstore_n 3, 1, ax0)] (pc' := 196) (L' := [some (aI v0), some (aI v1), some (aI v2), some (aL (Int32.toInt64 (v1 &&& v2))), none]) (stk' := []) (σ' := σ) (g := []) (by decide +kernel) rfl rfl ?_
    refine aw_goto (off := 13) (tgt := 209) (by decide +kernel) (by decide) ?_
    refine aw_forget (L' := [none, none, none, some (aL (Int32.toInt64 (v1 &&& v2))), none]) (lsub_n (lsub_n (lsub_n (lsub_s (lsub_n (lsub_0)))))) ?_
    exact ok_X1_ofTwo_209 (Int32.toInt64 (v1 &&& v2)) σ _ h
  rw [if_neg c1] at h
  refine awsw_cons (fun c1 => ?_) (fun c1 => ?_)
  · rw [if_pos c1] at h
    refine aw_seq [(.iload_n 1, 1, ax0), (.iload_n 2, 1, ax0), (.ior, 1, ax0), (.i2l, 1, ax0), (.lstore_n 3, 1, ax0)] (pc' := 204) (L' := [some (aI v0), some (aI v1), some (aI v2), some (aL (Int32.toInt64 (v1 ||| v2))), none]) (stk' := []) (σ' := σ) (g := []) (by decide +kernel) rfl rfl ?_
    refine aw_goto (off := 5) (tgt := 209) (by decide +kernel) (by decide) ?_
    refine aw_forget (L' := [none, none, none, some (aL (Int32.toInt64 (v1 ||| v2))), none]) (lsub_n (lsub_n (lsub_n (lsub_s (lsub_n (lsub_0)))))) ?_
    exact ok_X1_ofTwo_209 (Int32.toInt64 (v1 ||| v2)) σ _ h
  rw [if_neg c1] at h
  refine awsw_cons (fun c1 => ?_) (fun c1 => ?_)
  · rw [if_pos c1] at h
    refine aw_seq [(.iload_n 1, 1, ax0), (.iload_n 2, 1, ax0)] (pc' := 109) (L' := [some (aI v0), some (aI v1), some (aI v2), none, none]) (stk' := [aI v2, aI v1]) (σ' := σ) (g := []) (by decide +kernel) rfl rfl ?_
    refine aw_icmp_ge (off := 7) (tgt := 116) (by decide +kernel) (by decide) (fun c1 => ?_) (fun c1 => ?_)
    · rw [if_pos c1] at h
      refine aw_seq [(.lconst 0, 1, (axL 0))] (pc' := 117) (L' := [some (aI v0), some (aI v1), some (aI v2), none, none]) (stk' := [aL 0]) (σ' := σ) (g := []) (by decide +kernel) rfl rfl ?_
      refine aw_forget (L' := [none, none, none, none, none]) (lsub_n (lsub_n (lsub_n (lsub_n (lsub_n (lsub_0)))))) ?_
      exact ok_X1_ofTwo_117 0 σ _ h
    · rw [if_neg c1] at h
      refine aw_seq [(.lconst 1, 1, (axL 1))] (pc' := 113) (L' := [some (aI v0), some (aI v1), some (aI v2), none, none]) (stk' := [aL 1]) (σ' := σ) (g := []) (by decide +kernel) rfl rfl ?_
      refine aw_goto (off := 4) (tgt := 117) (by decide +kernel) (by decide) ?_
      refine aw_forget (L' := [none, none, none, none, none]) (lsub_n (lsub_n (lsub_n (lsub_n (lsub_n (lsub_0)))))) ?_
      exact ok_X1_ofTwo_117 1 σ _ h
  rw [if_neg c1] at h
  refine awsw_cons (fun c1 => ?_) (fun c1 => ?_)
  · rw [if_pos c1] at h
    refine aw_seq [(.iload_n 1, 1, ax0), (.iload_n 2, 1, ax0)] (pc' := 123) (L' := [some (aI v0), some (aI v1), some (aI v2), none, none]) (stk' := [aI v2, aI v1]) (σ' := σ) (g := []) (by decide +kernel) rfl rfl ?_
    refine aw_icmp_gt (off := 7) (tgt := 130) (by decide +kernel) (by decide) (fun c1 => ?_) (fun c1 => ?_)
    · rw [if_pos c1] at h
      refine aw_seq [(.lconst 0, 1, (axL 0))] (pc' := 131) (L' := [some (aI v0), some (aI v1), some (aI v2), none, none]) (stk' := [aL 0]) (σ' := σ) (g := []) (by decide +kernel) rfl rfl ?_
      refine aw_forget (L' := [none, none, none, none, none]) (lsub_n (lsub_n (lsub_n (lsub_n (lsub_n (lsub_0)))))) ?_
      exact ok_X1_ofTwo_131 0 σ _ h
    · rw [if_neg c1] at h
      refine aw_seq [(.lconst 1, 1, (axL 1))] (pc' := 127) (L' := [some (aI v0), some (aI v1), some (aI v2), none, none]) (stk' := [aL 1]) (σ' := σ) (g := []) (by decide +kernel) rfl rfl ?_
      refine aw_goto (off := 4) (tgt := 131) (by decide +kernel) (by decide) ?_
      refine aw_forget (L' := [none, none, none, none, none]) (lsub_n (lsub_n (lsub_n (lsub_n (lsub_n (lsub_0)))))) ?_
      exact ok_X1_ofTwo_131 1 σ _ h
  rw [if_neg c1] at h
  refine awsw_cons (fun c1 => ?_) (fun c1 => ?_)
  · rw [if_pos c1] at h
    refine aw_seq [(.iload_n 1, 1, ax0), (.iload_n 2, 1, ax0)] (pc' := 137) (L' := [some (aI v0), some (aI v1), some (aI v2), none, none]) (stk' := [aI v2, aI v1]) (σ' := σ) (g := []) (by decide +kernel) rfl rfl ?_
    refine aw_icmp_le (off := 7) (tgt := 144) (by decide +kernel) (by decide) (fun c1 => ?_) (fun c1 => ?_)
    · rw [if_pos c1] at h
      refine aw_seq [(.lconst 0, 1, (axL 0))] (pc' := 145) (L' := [some (aI v0), some (aI v1), some (aI v2), none, none]) (stk' := [aL 0]) (σ' := σ) (g := []) (by decide +kernel) rfl rfl ?_
      refine aw_forget (L' := [none, none, none, none, none]) (lsub_n (lsub_n (lsub_n (lsub_n (lsub_n (lsub_0)))))) ?_
      exact ok_X1_ofTwo_145 0 σ _ h
    · rw [if_neg c1] at h
      refine aw_seq [(.lconst 1, 1, (axL 1))] (pc' := 141) (L' := [some (aI v0), some (aI v1), some (aI v2), none, none]) (stk' := [aL 1]) (σ' := σ) (g := []) (by decide +kernel) rfl rfl ?_
      refine aw_goto (off := 4) (tgt := 145) (by decide +kernel) (by decide) ?_
      refine aw_forget (L' := [none, none, none, none, none]) (lsub_n (lsub_n (lsub_n (lsub_n (lsub_n (lsub_0)))))) ?_
      exact ok_X1_ofTwo_145 1 σ _ h
  rw [if_neg c1] at h
  refine awsw_cons (fun c1 => ?_) (fun c1 => ?_)
  · rw [if_pos c1] at h
    refine aw_seq [(.iload_n 1, 1, ax0), (.iload_n 2, 1, ax0)] (pc' := 151) (L' := [some (aI v0), some (aI v1), some (aI v2), none, none]) (stk' := [aI v2, aI v1]) (σ' := σ) (g := []) (by decide +kernel) rfl rfl ?_
    refine aw_icmp_lt (off := 7) (tgt := 158) (by decide +kernel) (by decide) (fun c1 => ?_) (fun c1 => ?_)
    · rw [if_pos c1] at h
      refine aw_seq [(.lconst 0, 1, (axL 0))] (pc' := 159) (L' := [some (aI v0), some (aI v1), some (aI v2), none, none]) (stk' := [aL 0]) (σ' := σ) (g := []) (by decide +kernel) rfl rfl ?_
      refine aw_forget (L' := [none, none, none, none, none]) (lsub_n (lsub_n (lsub_n (lsub_n (lsub_n (lsub_0)))))) ?_
      exact ok_X1_ofTwo_159 0 σ _ h
    · rw [if_neg c1] at h
      refine aw_seq [(.lconst 1, 1, (axL 1))] (pc' := 155) (L' := [some (aI v0), some (aI v1), some (aI v2), none, none]) (stk' := [aL 1]) (σ' := σ) (g := []) (by decide +kernel) rfl rfl ?_
      refine aw_goto (off := 4) (tgt := 159) (by decide +kernel) (by decide) ?_
      refine aw_forget (L' := [none, none, none, none, none]) (lsub_n (lsub_n (lsub_n (lsub_n (lsub_n (lsub_0)))))) ?_
      exact ok_X1_ofTwo_159 1 σ _ h
  rw [if_neg c1] at h
  refine awsw_cons (fun c1 => ?_) (fun c1 => ?_)
  · rw [if_pos c1] at h
    refine aw_seq [(.iload_n 1, 1, ax0), (.iload_n 2, 1, ax0)] (pc' := 165) (L' := [some (aI v0), some (aI v1), some (aI v2), none, none]) (stk' := [aI v2, aI v1]) (σ' := σ) (g := []) (by decide +kernel) rfl rfl ?_
    refine aw_icmp_ne (off := 7) (tgt := 172) (by decide +kernel) (by decide) (fun c1 => ?_) (fun c1 => ?_)
    · rw [if_neg c1] at h
      refine aw_seq [(.lconst 0, 1, (axL 0))] (pc' := 173) (L' := [some (aI v0), some (aI v1), some (aI v2), none, none]) (stk' := [aL 0]) (σ' := σ) (g := []) (by decide +kernel) rfl rfl ?_
      refine aw_forget (L' := [none, none, none, none, none]) (lsub_n (lsub_n (lsub_n (lsub_n (lsub_n (lsub_0)))))) ?_
      exact ok_X1_ofTwo_173 0 σ _ h
    · rw [if_pos c1] at h
      refine aw_seq [(.lconst 1, 1, (axL 1))] (pc' := 169) (L' := [some (aI v0), some (aI v1), some (aI v2), none, none]) (stk' := [aL 1]) (σ' := σ) (g := []) (by decide +kernel) rfl rfl ?_
      refine aw_goto (off := 4) (tgt := 173) (by decide +kernel) (by decide) ?_
      refine aw_forget (L' := [none, none, none, none, none]) (lsub_n (lsub_n (lsub_n (lsub_n (lsub_n (lsub_0)))))) ?_
      exact ok_X1_ofTwo_173 1 σ _ h
  rw [if_neg c1] at h
  refine awsw_cons (fun c1 => ?_) (fun c1 => ?_)
  · rw [if_pos c1] at h
    refine aw_seq [(.iload_n 1, 1, ax0), (.iload_n 2, 1, ax0)] (pc' := 179) (L' := [some (aI v0), some (aI v1), some (aI v2), none, none]) (stk' := [aI v2, aI v1]) (σ' := σ) (g := []) (by decide +kernel) rfl rfl ?_
    refine aw_icmp_eq (off := 7) (tgt := 186) (by decide +kernel) (by decide) (fun c1 => ?_) (fun c1 => ?_)
    · rw [if_pos c1] at h
      refine aw_seq [(.lconst 0, 1, (axL 0))] (pc' := 187) (L' := [some (aI v0), some (aI v1), some (aI v2), none, none]) (stk' := [aL 0]) (σ' := σ) (g := []) (by decide +kernel) rfl rfl ?_
      refine aw_forget (L' := [none, none, none, none, none]) (lsub_n (lsub_n (lsub_n (lsub_n (lsub_n (lsub_0)))))) ?_
      exact ok_X1_ofTwo_187 0 σ _ h
    · rw [if_neg c1] at h
      refine aw_seq [(.lconst 1, 1, (axL 1))] (pc' := 183) (L' := [some (aI v0), some (aI v1), some (aI v2), none, none]) (stk' := [aL 1]) (σ' := σ) (g := []) (by decide +kernel) rfl rfl ?_
      refine aw_goto (off := 4) (tgt := 187) (by decide +kernel) (by decide) ?_
      refine aw_forget (L' := [none, none, none, none, none]) (lsub_n (lsub_n (lsub_n (lsub_n (lsub_n (lsub_0)))))) ?_
      exact ok_X1_ofTwo_187 1 σ _ h
  rw [if_neg c1] at h
  refine awsw_cons (fun c1 => ?_) (fun c1 => ?_)
  · rw [if_pos c1] at h
    refine aw_seq [(.iload_n 1, 1, ax0), (.i2l, 1, ax0), (.iload_n 2, 1, ax0), (.i2l, 1, ax0), (.ladd, 1, ax0), (.lstore_n 3, 1, ax0)] (pc' := 70) (L' := [some (aI v0), some (aI v1), some (aI v2), some (aL ((Int32.toInt64 v1) + (Int32.toInt64 v2))), none]) (stk' := []) (σ' := σ) (g := []) (by decide +kernel) rfl rfl ?_
    refine aw_goto (off := 139) (tgt := 209) (by decide +kernel) (by decide) ?_
    refine aw_forget (L' := [none, none, none, some (aL ((Int32.toInt64 v1) + (Int32.toInt64 v2))), none]) (lsub_n (lsub_n (lsub_n (lsub_s (lsub_n (lsub_0)))))) ?_
    exact ok_X1_ofTwo_209 ((Int32.toInt64 v1) + (Int32.toInt64 v2)) σ _ h
  rw [if_neg c1] at h
  refine awsw_cons (fun c1 => ?_) (fun c1 => ?_)
  · rw [if_pos c1] at h
    refine aw_seq [(.iload_n 1, 1, ax0), (.i2l, 1, ax0), (.iload_n 2, 1, ax0), (.i2l, 1, ax0), (.lsub, 1, ax0), (.lstore_n 3, 1, ax0)] (pc' := 79) (L' := [some (aI v0), some (aI v1), some (aI v2), some (aL ((Int32.toInt64 v1) - (Int32.toInt64 v2))), none]) (stk' := []) (σ' := σ) (g := []) (by decide +kernel) rfl rfl ?_
    refine aw_goto (off := 130) (tgt := 209) (by decide +kernel) (by decide) ?_
    refine aw_forget (L' := [none, none, none, some (aL ((Int32.toInt64 v1) - (Int32.toInt64 v2))), none]) (lsub_n (lsub_n (lsub_n (lsub_s (lsub_n (lsub_0)))))) ?_
    exact ok_X1_ofTwo_209 ((Int32.toInt64 v1) - (Int32.toInt64 v2)) σ _ h
  rw [if_neg c1] at h
  refine awsw_cons (fun c1 => ?_) (fun c1 => ?_)
  · rw [if_pos c1] at h
    refine aw_seq [(.iload_n 1, 1, ax0), (.i2l, 1, ax0), (.iload_n 2, 1, ax0), (.i2l, 1, ax0), (.lmul, 1, ax0), (.lstore_n 3, 1, ax0)] (pc' := 88) (L' := [some (aI v0), some (aI v1), some (aI v2), some (aL ((Int32.toInt64 v1) * (Int32.toInt64 v2))), none]) (stk' := []) (σ' := σ) (g := []) (by decide +kernel) rfl rfl ?_
    refine aw_goto (off := 121) (tgt := 209) (by decide +kernel) (by decide) ?_
    refine aw_forget (L' := [none, none, none, some (aL ((Int32.toInt64 v1) * (Int32.toInt64 v2))), none]) (lsub_n (lsub_n (lsub_n (lsub_s (lsub_n (lsub_0)))))) ?_
    exact ok_X1_ofTwo_209 ((Int32.toInt64 v1) * (Int32.toInt64 v2)) σ _ h
  rw [if_neg c1] at h
  refine awsw_cons (fun c1 => ?_) (fun c1 => ?_)
  · rw [if_pos c1] at h
    refine aw_seq [(.iload_n 2, 1, ax0)] (pc' := 92) (L' := [some (aI v0), some (aI v1), some (aI v2), none, none]) (stk' := [aI v2]) (σ' := σ) (g := []) (by decide +kernel) rfl rfl ?_
    refine aw_if_ne (off := 7) (tgt := 99) (by decide +kernel) (by decide) (fun c1 => ?_) (fun c1 => ?_)
    · rw [if_neg c1] at h
      obtain ⟨hg, h⟩ := grd_some h
      refine aw_seq [(.iload_n 1, 1, ax0), (.iload_n 2, 1, ax0), (.idiv, 1, ax0), (.i2l, 1, ax0)] (pc' := 103) (L' := [some (aI v0), some (aI v1), some (aI v2), none, none]) (stk' := [aL (Int32.toInt64 (v1 / v2))]) (σ' := σ) (g := [(!decide (v2 = 0))]) (by decide +kernel) rfl hg ?_
      refine aw_forget (L' := [none, none, none, none, none]) (lsub_n (lsub_n (lsub_n (lsub_n (lsub_n (lsub_0)))))) ?_
      exact ok_X1_ofTwo_103 (Int32.toInt64 (v1 / v2)) σ _ h
    · rw [if_pos c1] at h
      refine aw_seq [(.lconst 0, 1, (axL 0))] (pc' := 96) (L' := [some (aI v0), some (aI v1), some (aI v2), none, none]) (stk' := [aL 0]) (σ' := σ) (g := []) (by decide +kernel) rfl rfl ?_
      refine aw_goto (off := 7) (tgt := 103) (by decide +kernel) (by decide) ?_
      refine aw_forget (L' := [none, none, none, none, none]) (lsub_n (lsub_n (lsub_n (lsub_n (lsub_n (lsub_0)))))) ?_
      exact ok_X1_ofTwo_103 0 σ _ h
  rw [if_neg c1] at h
  refine awsw_nil ?_
  refine aw_seq [(.lconst 0, 1, (axL 0)), (.lstore_n 3, 1, ax0)] (pc' := 209) (L' := [some (aI v0), some (aI v1), some (aI v2), some (aL 0), none]) (stk' := []) (σ' := σ) (g := []) (by decide +kernel) rfl rfl ?_
  refine aw_forget (L' := [none, none, none, some (aL 0), none]) (lsub_n (lsub_n (lsub_n (lsub_s (lsub_n (lsub_0)))))) ?_
  exact ok_X1_ofTwo_209 0 σ _ h
def f_X1_pop_19    (σ : Sg) : Option (Int32 × Sg) :=
  some (0, σ)
set_option maxRecDepth 100000 in
set_option maxHeartbeats 4000000 in
theorem ok_X1_pop_19 {κ : Kd}    : ∀  (σ : Sg) (q : (Int32 × Sg)), f_X1_pop_19  σ = some q → AW κ pX1_pop 1 (some (aI q.1), q.2) 19 [none] [] σ := by
  intro  σ q h
  unfold f_X1_pop_19 at h
  refine aw_seq [(.iconst 0, 1, (axI 0))] (pc' := 20) (L' := [none]) (stk' := [aI 0]) (σ' := σ) (g := []) (by decide +kernel) rfl rfl ?_
  cases h
  exact aw_iret rfl (by decide +kernel)
def f_X1_pop  (σ : Sg) : Option (Int32 × Sg) :=
  if (σ.1 47 1) ≤ 0 then (
    f_X1_pop_19 σ
  ) else (
    if (σ.1 47 1) ≤ 300 then (
      ltσ (wI σ 47 1 ((σ.1 47 1) - 1)) fun σ1 =>
      grd (inb (σ1.1 47 1) 300 && true) <|
      some ((σ1.1 48 (ix (σ1.1 47 1))), σ1)
    ) else (
      f_X1_pop_19 σ
    )
  )
set_option maxRecDepth 100000 in
set_option maxHeartbeats 4000000 in
theorem ok_X1_pop {κ : Kd}  {σ : Sg} {q : (Int32 × Sg)} (h : f_X1_pop σ = some q) : AMet κ pX1_pop 1 [aR 1 0 47] σ (some (aI q.1), q.2) := by
  unfold f_X1_pop at h
  refine amet_of okp_X1_pop [(false, aR 1 0 47)] (List.forall_mem_cons.mpr ⟨rfl, (fun _ hn => absurd hn List.not_mem_nil)⟩) 0 rfl ?_
  show AW κ pX1_pop 1 (some (aI q.1), q.2) 0 [some (aR 1 0 47)] [] σ
  refine aw_seq [(.aload_n 0, 1, ax0), (.getfield 99, 3, (axF 1 1 (0, 0, 0, none)))] (pc' := 4) (L' := [some (aR 1 0 47)]) (stk' := [aI (σ.1 47 1)]) (σ' := σ) (g := []) (by decide +kernel) rfl rfl ?_
  refine aw_if_le (off := 15) (tgt := 19) (by decide +kernel) (by decide) (fun c1 => ?_) (fun c1 => ?_)
  · rw [if_pos c1] at h
    refine aw_forget (L' := [none]) (lsub_n (lsub_0)) ?_
    exact ok_X1_pop_19 σ _ h
  · rw [if_neg c1] at h
    refine aw_seq [(.aload_n 0, 1, ax0), (.getfield 99, 3, (axF 1 1 (0, 0, 0, none))), (.aload_n 0, 1, ax0), (.getfield 9, 3, (axF 1 0 (2, 1, 13, some 300))), (.arraylength, 1, ax0)] (pc' := 16) (L' := [some (aR 1 0 47)]) (stk' := [aI 300, aI (σ.1 47 1)]) (σ' := σ) (g := []) (by decide +kernel) rfl rfl ?_
    refine aw_icmp_le (off := 5) (tgt := 21) (by decide +kernel) (by decide) (fun c1 => ?_) (fun c1 => ?_)
    · rw [if_pos c1] at h
      obtain ⟨σ1, e2, h⟩ := ltσ_some h
      refine aw_seq [(.aload_n 0, 1, ax0), (.dup, 1, ax0), (.getfield 99, 3, (axF 1 1 (0, 0, 0, none))), (.iconst 1, 1, (axI 1)), (.isub, 1, ax0), (.putfield 99, 3, (axF 1 1 (0, 0, 0, none)))] (pc' := 31) (L' := [some (aR 1 0 47)]) (stk' := []) (σ' := σ1) (g := []) (by decide +kernel) (by rw [e2]; rfl) rfl ?_
      obtain ⟨hg, h⟩ := grd_some h
      refine aw_seq [(.aload_n 0, 1, ax0), (.getfield 9, 3, (axF 1 0 (2, 1, 13, some 300))), (.aload_n 0, 1, ax0), (.getfield 99, 3, (axF 1 1 (0, 0, 0, none))), (.iaload, 1, ax0)] (pc' := 40) (L' := [some (aR 1 0 47)]) (stk' := [aI (σ1.1 48 (ix (σ1.1 47 1)))]) (σ' := σ1) (g := [inb (σ1.1 47 1) 300]) (by decide +kernel) rfl hg ?_
      cases h
      exact aw_iret rfl (by decide +kernel)
    · rw [if_neg c1] at h
      refine aw_forget (L' := [none]) (lsub_n (lsub_0)) ?_
      exact ok_X1_pop_19 σ _ h
def f_X1_push_39    (σ : Sg) : Option Sg :=
  some σ
set_option maxRecDepth 100000 in
set_option maxHeartbeats 4000000 in
theorem ok_X1_push_39 {κ : Kd}    : ∀  (σ : Sg) (q : Sg), f_X1_push_39  σ = some q → AW κ pX1_push 1 (none, q) 39 [none, none] [] σ := by
  intro  σ q h
  unfold f_X1_push_39 at h
  cases h
  exact aw_vret rfl (by decide +kernel)
def f_X1_push (v1 : Int32) (σ : Sg) : Option Sg :=
  if (σ.1 47 1) < 0 then (
    f_X1_push_39 σ
  ) else (
    if 300 ≤ (σ.1 47 1) then (
      f_X1_push_39 σ
    ) else (
      grd (inb (σ.1 47 1) 300 && true) <|
      ltσ (wI σ 48 (ix (σ.1 47 1)) v1) fun σ1 =>
      ltσ (wI σ1 47 1 ((σ1.1 47 1) + 1)) fun σ3 =>
      f_X1_push_39 σ3
    )
  )
set_option maxRecDepth 100000 in
set_option maxHeartbeats 4000000 in
theorem ok_X1_push {κ : Kd} {v1 : Int32} {σ : Sg} {q : Sg} (h : f_X1_push v1 σ = some q) : AMet κ pX1_push 1 [aR 1 0 47, aI v1] σ (none, q) := by
  unfold f_X1_push at h
  refine amet_of okp_X1_push [(false, aR 1 0 47), (false, aI v1)] (List.forall_mem_cons.mpr ⟨rfl, List.forall_mem_cons.mpr ⟨rfl, (fun _ hn => absurd hn List.not_mem_nil)⟩⟩) 0 rfl ?_
  show AW κ pX1_push 1 (none, q) 0 [some (aR 1 0 47), some (aI v1)] [] σ
  refine aw_seq [(.aload_n 0, 1, ax0), (.getfield 99, 3, (axF 1 1 (0, 0, 0, none)))] (pc' := 4) (L' := [some (aR 1 0 47), some (aI v1)]) (stk' := [aI (σ.1 47 1)]) (σ' := σ) (g := []) (by decide +kernel) rfl rfl ?_
  refine aw_if_lt (off := 35) (tgt := 39) (by decide +kernel) (by decide) (fun c1 => ?_) (fun c1 => ?_)
  · rw [if_pos c1] at h
    refine aw_forget (L' := [none, none]) (lsub_n (lsub_n (lsub_0))) ?_
    exact ok_X1_push_39 σ _ h
  · rw [if_neg c1] at h
    refine aw_seq [(.aload_n 0, 1, ax0), (.getfield 99, 3, (axF 1 1 (0, 0, 0, none))), (.aload_n 0, 1, ax0), (.getfield 9, 3, (axF 1 0 (2, 1, 13, some 300))), (.arraylength, 1, ax0)] (pc' := 16) (L' := [some (aR 1 0 47), some (aI v1)]) (stk' := [aI 300, aI (σ.1 47 1)]) (σ' := σ) (g := []) (by decide +kernel) rfl rfl ?_
    refine aw_icmp_ge (off := 23) (tgt := 39) (by decide +kernel) (by decide) (fun c1 => ?_) (fun c1 => ?_)
    · rw [if_pos c1] at h
      refine aw_forget (L' := [none, none]) (lsub_n (lsub_n (lsub_0))) ?_
      exact ok_X1_push_39 σ _ h
    · rw [if_neg c1] at h
      obtain ⟨hg, h⟩ := grd_some h
      obtain ⟨σ1, e2, h⟩ := ltσ_some h
      refine aw_seq [(.aload_n 0, 1, ax0), (.getfield 9, 3, (axF 1 0 (2, 1, 13, some 300))), (.aload_n 0, 1, ax0), (.getfield 99, 3, (axF 1 1 (0, 0, 0, none))), (.iload_n 1, 1, ax0), (.iastore, 1, ax0)] (pc' := 29) (L' := [some (aR 1 0 47), some (aI v1)]) (stk' := []) (σ' := σ1) (g := [inb (σ.1 47 1) 300]) (by decide +kernel) (by rw [e2]; rfl) hg ?_
      obtain ⟨σ3, e4, h⟩ := ltσ_some h
      refine aw_seq [(.aload_n 0, 1, ax0), (.dup, 1, ax0), (.getfield 99, 3, (axF 1 1 (0, 0, 0, none))), (.iconst 1, 1, (axI 1)), (.iadd, 1, ax0), (.putfield 99, 3, (axF 1 1 (0, 0, 0, none)))] (pc' := 39) (L' := [some (aR 1 0 47), some (aI v1)]) (stk' := []) (σ' := σ3) (g := []) (by decide +kernel) (by rw [e4]; rfl) rfl ?_
      refine aw_forget (L' := [none, none]) (lsub_n (lsub_n (lsub_0))) ?_
      exact ok_X1_push_39 σ3 _ h
def f_X6_argument_23 (κ : Kd) (x : Nat)  (s0 : Int32) (σ : Sg) : Option (Int32 × Sg) :=
  some (s0, σ)
set_option maxRecDepth 100000 in
set_option maxHeartbeats 4000000 in
theorem ok_X6_argument_23 {κ : Kd} {x : Nat}   : ∀ (s0 : Int32) (σ : Sg) (q : (Int32 × Sg)), f_X6_argument_23 κ x s0 σ = some q → AW κ pX6_argument 1 (some (aI q.1), q.2) 23 [none, none] [aI s0] σ := by
  intro s0 σ q h
  unfold f_X6_argument_23 at h
  cases h
  exact aw_iret rfl (by decide +kernel)
def f_X6_argument_22 (κ : Kd) (x : Nat)   (σ : Sg) : Option (Int32 × Sg) :=
  f_X6_argument_23 κ x 0 σ
set_option maxRecDepth 100000 in
set_option maxHeartbeats 4000000 in
theorem ok_X6_argument_22 {κ : Kd} {x : Nat}   : ∀  (σ : Sg) (q : (Int32 × Sg)), f_X6_argument_22 κ x  σ = some q → AW κ pX6_argument 1 (some (aI q.1), q.2) 22 [none, none] [] σ := by
  intro  σ q h
  unfold f_X6_argument_22 at h
  refine aw_seq [(.iconst 0, 1, (axI 0))] (pc' := 23) (L' := [none, none]) (stk' := [aI 0]) (σ' := σ) (g := []) (by decide +kernel) rfl rfl ?_
  refine aw_forget (L' := [none, none]) (lsub_n (lsub_n (lsub_0))) ?_
  exact ok_X6_argument_23 0 σ _ h
def f_X6_argument (κ : Kd) (x : Nat) (v1 : Int32) (σ : Sg) : Option (Int32 × Sg) :=
  if v1 < 0 then (
    f_X6_argument_22 κ x σ
  ) else (
    if (Int32.ofNat (lenOf κ (x + 3))) ≤ v1 then (
      f_X6_argument_22 κ x σ
    ) else (
      grd (inb v1 (lenOf κ (x + 3)) && true) <|
      f_X6_argument_23 κ x (σ.1 (x + 3) (ix v1)) σ
    )
  )
set_option maxRecDepth 100000 in
set_option maxHeartbeats 4000000 in
theorem ok_X6_argument {κ : Kd} {x : Nat} {v1 : Int32} {σ : Sg} {q : (Int32 × Sg)} (h : f_X6_argument κ x v1 σ = some q) : AMet κ pX6_argument 1 [aR 6 0 x, aI v1] σ (some (aI q.1), q.2) := by
  unfold f_X6_argument at h
  refine amet_of okp_X6_argument [(false, aR 6 0 x), (false, aI v1)] (List.forall_mem_cons.mpr ⟨rfl, List.forall_mem_cons.mpr ⟨rfl, (fun _ hn => absurd hn List.not_mem_nil)⟩⟩) 0 rfl ?_
  show AW κ pX6_argument 1 (some (aI q.1), q.2) 0 [some (aR 6 0 x), some (aI v1)] [] σ
  refine aw_seq [(.iload_n 1, 1, ax0)] (pc' := 1) (L' := [some (aR 6 0 x), some (aI v1)]) (stk' := [aI v1]) (σ' := σ) (g := []) (by decide +kernel) rfl rfl ?_
  refine aw_if_lt (off := 21) (tgt := 22) (by decide +kernel) (by decide) (fun c1 => ?_) (fun c1 => ?_)
  · rw [if_pos c1] at h
    refine aw_forget (L' := [none, none]) (lsub_n (lsub_n (lsub_0))) ?_
    exact ok_X6_argument_22 σ _ h
  · rw [if_neg c1] at h
    refine aw_seq [(.iload_n 1, 1, ax0), (.aload_n 0, 1, ax0), (.getfield 18, 3, (axF 6 2 (2, 3, 13, none))), (.arraylength, 1, ax0)] (pc' := 10) (L' := [some (aR 6 0 x), some (aI v1)]) (stk' := [aI (Int32.ofNat (lenOf κ (x + 3))), aI v1]) (σ' := σ) (g := []) (by decide +kernel) rfl rfl ?_
    refine aw_icmp_ge (off := 12) (tgt := 22) (by decide +kernel) (by decide) (fun c1 => ?_) (fun c1 => ?_)
    · rw [if_pos c1] at h
      refine aw_forget (L' := [none, none]) (lsub_n (lsub_n (lsub_0))) ?_
      exact ok_X6_argument_22 σ _ h
    · rw [if_neg c1] at h
      obtain ⟨hg, h⟩ := grd_some h
      refine aw_seq [(.aload_n 0, 1, ax0), (.getfield 18, 3, (axF 6 2 (2, 3, 13, none))), (.iload_n 1, 1, ax0), (.iaload, 1, ax0)] (pc' := 19) (L' := [some (aR 6 0 x), some (aI v1)]) (stk' := [aI (σ.1 (x + 3) (ix v1))]) (σ' := σ) (g := [inb v1 (lenOf κ (x + 3))]) (by decide +kernel) rfl hg ?_
      refine aw_goto (off := 4) (tgt := 23) (by decide +kernel) (by decide) ?_
      refine aw_forget (L' := [none, none]) (lsub_n (lsub_n (lsub_0))) ?_
      exact ok_X6_argument_23 (σ.1 (x + 3) (ix v1)) σ _ h
def f_X6_behindSigns_23 (κ : Kd) (x : Nat)  (s0 : Int32) (σ : Sg) : Option (Int32 × Sg) :=
  some (s0, σ)
set_option maxRecDepth 100000 in
set_option maxHeartbeats 4000000 in
theorem ok_X6_behindSigns_23 {κ : Kd} {x : Nat}   : ∀ (s0 : Int32) (σ : Sg) (q : (Int32 × Sg)), f_X6_behindSigns_23 κ x s0 σ = some q → AW κ pX6_behindSigns 1 (some (aI q.1), q.2) 23 [none, none] [aI s0] σ := by
  intro s0 σ q h
  unfold f_X6_behindSigns_23 at h
  cases h
  exact aw_iret rfl (by decide +kernel)
def f_X6_behindSigns_22 (κ : Kd) (x : Nat)   (σ : Sg) : Option (Int32 × Sg) :=
  f_X6_behindSigns_23 κ x (-1) σ
set_option maxRecDepth 100000 in
set_option maxHeartbeats 4000000 in
theorem ok_X6_behindSigns_22 {κ : Kd} {x : Nat}   : ∀  (σ : Sg) (q : (Int32 × Sg)), f_X6_behindSigns_22 κ x  σ = some q → AW κ pX6_behindSigns 1 (some (aI q.1), q.2) 22 [none, none] [] σ := by
  intro  σ q h
  unfold f_X6_behindSigns_22 at h
  refine aw_seq [(.iconst (-1), 1, (axI (-1)))] (pc' := 23) (L' := [none, none]) (stk' := [aI (-1)]) (σ' := σ) (g := []) (by decide +kernel) rfl rfl ?_
  refine aw_forget (L' := [none, none]) (lsub_n (lsub_n (lsub_0))) ?_
  exact ok_X6_behindSigns_23 (-1) σ _ h
def f_X6_behindSigns (κ : Kd) (x : Nat) (v1 : Int32) (σ : Sg) : Option (Int32 × Sg) :=
  if v1 < 0 then (
    f_X6_behindSigns_22 κ x σ
  ) else (
    if (Int32.ofNat (lenOf κ (x + 5))) ≤ v1 then (
      f_X6_behindSigns_22 κ x σ
    ) else (
      grd (inb v1 (lenOf κ (x + 5)) && true) <|
      f_X6_behindSigns_23 κ x (σ.1 (x + 5) (ix v1)) σ
    )
  )
set_option maxRecDepth 100000 in
set_option maxHeartbeats 4000000 in
theorem ok_X6_behindSigns {κ : Kd} {x : Nat} {v1 : Int32} {σ : Sg} {q : (Int32 × Sg)} (h : f_X6_behindSigns κ x v1 σ = some q) : AMet κ pX6_behindSigns 1 [aR 6 0 x, aI v1] σ (some (aI q.1), q.2) := by
  unfold f_X6_behindSigns at h
  refine amet_of okp_X6_behindSigns [(false, aR 6 0 x), (false, aI v1)] (List.forall_mem_cons.mpr ⟨rfl, List.forall_mem_cons.mpr ⟨rfl, (fun _ hn => absurd hn List.not_mem_nil)⟩⟩) 0 rfl ?_
  show AW κ pX6_behindSigns 1 (some (aI q.1), q.2) 0 [some (aR 6 0 x), some (aI v1)] [] σ
  refine aw_seq [(.iload_n 1, 1, ax0)] (pc' := 1) (L' := [some (aR 6 0 x), some (aI v1)]) (stk' := [aI v1]) (σ' := σ) (g := []) (by decide +kernel) rfl rfl ?_
  refine aw_if_lt (off := 21) (tgt := 22) (by decide +kernel) (by decide) (fun c1 => ?_) (fun c1 => ?_)
  · rw [if_pos c1] at h
    refine aw_forget (L' := [none, none]) (lsub_n (lsub_n (lsub_0))) ?_
    exact ok_X6_behindSigns_22 σ _ h
  · rw [if_neg c1] at h
    refine aw_seq [(.iload_n 1, 1, ax0), (.aload_n 0, 1, ax0), (.getfield 24, 3, (axF 6 4 (2, 5, 13, none))), (.arraylength, 1, ax0)] (pc' := 10) (L' := [some (aR 6 0 x), some (aI v1)]) (stk' := [aI (Int32.ofNat (lenOf κ (x + 5))), aI v1]) (σ' := σ) (g := []) (by decide +kernel) rfl rfl ?_
    refine aw_icmp_ge (off := 12) (tgt := 22) (by decide +kernel) (by decide) (fun c1 => ?_) (fun c1 => ?_)
    · rw [if_pos c1] at h
      refine aw_forget (L' := [none, none]) (lsub_n (lsub_n (lsub_0))) ?_
      exact ok_X6_behindSigns_22 σ _ h
    · rw [if_neg c1] at h
      obtain ⟨hg, h⟩ := grd_some h
      refine aw_seq [(.aload_n 0, 1, ax0), (.getfield 24, 3, (axF 6 4 (2, 5, 13, none))), (.iload_n 1, 1, ax0), (.iaload, 1, ax0)] (pc' := 19) (L' := [some (aR 6 0 x), some (aI v1)]) (stk' := [aI (σ.1 (x + 5) (ix v1))]) (σ' := σ) (g := [inb v1 (lenOf κ (x + 5))]) (by decide +kernel) rfl hg ?_
      refine aw_goto (off := 4) (tgt := 23) (by decide +kernel) (by decide) ?_
      refine aw_forget (L' := [none, none]) (lsub_n (lsub_n (lsub_0))) ?_
      exact ok_X6_behindSigns_23 (σ.1 (x + 5) (ix v1)) σ _ h
def f_X6_firstSign_23 (κ : Kd) (x : Nat)  (s0 : Int32) (σ : Sg) : Option (Int32 × Sg) :=
  some (s0, σ)
set_option maxRecDepth 100000 in
set_option maxHeartbeats 4000000 in
theorem ok_X6_firstSign_23 {κ : Kd} {x : Nat}   : ∀ (s0 : Int32) (σ : Sg) (q : (Int32 × Sg)), f_X6_firstSign_23 κ x s0 σ = some q → AW κ pX6_firstSign 1 (some (aI q.1), q.2) 23 [none, none] [aI s0] σ := by
  intro s0 σ q h
  unfold f_X6_firstSign_23 at h
  cases h
  exact aw_iret rfl (by decide +kernel)
def f_X6_firstSign_22 (κ : Kd) (x : Nat)   (σ : Sg) : Option (Int32 × Sg) :=
  f_X6_firstSign_23 κ x (-1) σ
set_option maxRecDepth 100000 in
set_option maxHeartbeats 4000000 in
theorem ok_X6_firstSign_22 {κ : Kd} {x : Nat}   : ∀  (σ : Sg) (q : (Int32 × Sg)), f_X6_firstSign_22 κ x  σ = some q → AW κ pX6_firstSign 1 (some (aI q.1), q.2) 22 [none, none] [] σ := by
  intro  σ q h
  unfold f_X6_firstSign_22 at h
  refine aw_seq [(.iconst (-1), 1, (axI (-1)))] (pc' := 23) (L' := [none, none]) (stk' := [aI (-1)]) (σ' := σ) (g := []) (by decide +kernel) rfl rfl ?_
  refine aw_forget (L' := [none, none]) (lsub_n (lsub_n (lsub_0))) ?_
  exact ok_X6_firstSign_23 (-1) σ _ h
def f_X6_firstSign (κ : Kd) (x : Nat) (v1 : Int32) (σ : Sg) : Option (Int32 × Sg) :=
  if v1 < 0 then (
    f_X6_firstSign_22 κ x σ
  ) else (
    if (Int32.ofNat (lenOf κ (x + 4))) ≤ v1 then (
      f_X6_firstSign_22 κ x σ
    ) else (
      grd (inb v1 (lenOf κ (x + 4)) && true) <|
      f_X6_firstSign_23 κ x (σ.1 (x + 4) (ix v1)) σ
    )
  )
set_option maxRecDepth 100000 in
set_option maxHeartbeats 4000000 in
theorem ok_X6_firstSign {κ : Kd} {x : Nat} {v1 : Int32} {σ : Sg} {q : (Int32 × Sg)} (h : f_X6_firstSign κ x v1 σ = some q) : AMet κ pX6_firstSign 1 [aR 6 0 x, aI v1] σ (some (aI q.1), q.2) := by
  unfold f_X6_firstSign at h
  refine amet_of okp_X6_firstSign [(false, aR 6 0 x), (false, aI v1)] (List.forall_mem_cons.mpr ⟨rfl, List.forall_mem_cons.mpr ⟨rfl, (fun _ hn => absurd hn List.not_mem_nil)⟩⟩) 0 rfl ?_
  show AW κ pX6_firstSign 1 (some (aI q.1), q.2) 0 [some (aR 6 0 x), some (aI v1)] [] σ
  refine aw_seq [(.iload_n 1, 1, ax0)] (pc' := 1) (L' := [some (aR 6 0 x), some (aI v1)]) (stk' := [aI v1]) (σ' := σ) (g := []) (by decide +kernel) rfl rfl ?_
  refine aw_if_lt (off := 21) (tgt := 22) (by decide +kernel) (by decide) (fun c1 => ?_) (fun c1 => ?_)
  · rw [if_pos c1] at h
    refine aw_forget (L' := [none, none]) (lsub_n (lsub_n (lsub_0))) ?_
    exact ok_X6_firstSign_22 σ _ h
  · rw [if_neg c1] at h
    refine aw_seq [(.iload_n 1, 1, ax0), (.aload_n 0, 1, ax0), (.getfield 21, 3, (axF 6 3 (2, 4, 13, none))), (.arraylength, 1, ax0)] (pc' := 10) (L' := [some (aR 6 0 x), some (aI v1)]) (stk' := [aI (Int32.ofNat (lenOf κ (x + 4))), aI v1]) (σ' := σ) (g := []) (by decide +kernel) rfl rfl ?_
    refine aw_icmp_ge (off := 12) (tgt := 22) (by decide +kernel) (by decide) (fun c1 => ?_) (fun c1 => ?_)
    · rw [if_pos c1] at h
      refine aw_forget (L' := [none, none]) (lsub_n (lsub_n (lsub_0))) ?_
      exact ok_X6_firstSign_22 σ _ h
    · rw [if_neg c1] at h
      obtain ⟨hg, h⟩ := grd_some h
      refine aw_seq [(.aload_n 0, 1, ax0), (.getfield 21, 3, (axF 6 3 (2, 4, 13, none))), (.iload_n 1, 1, ax0), (.iaload, 1, ax0)] (pc' := 19) (L' := [some (aR 6 0 x), some (aI v1)]) (stk' := [aI (σ.1 (x + 4) (ix v1))]) (σ' := σ) (g := [inb v1 (lenOf κ (x + 4))]) (by decide +kernel) rfl hg ?_
      refine aw_goto (off := 4) (tgt := 23) (by decide +kernel) (by decide) ?_
      refine aw_forget (L' := [none, none]) (lsub_n (lsub_n (lsub_0))) ?_
      exact ok_X6_firstSign_23 (σ.1 (x + 4) (ix v1)) σ _ h
def f_X6_sign_23 (κ : Kd) (x : Nat)  (s0 : Int32) (σ : Sg) : Option (Int32 × Sg) :=
  some (s0, σ)
set_option maxRecDepth 100000 in
set_option maxHeartbeats 4000000 in
theorem ok_X6_sign_23 {κ : Kd} {x : Nat}   : ∀ (s0 : Int32) (σ : Sg) (q : (Int32 × Sg)), f_X6_sign_23 κ x s0 σ = some q → AW κ pX6_sign 1 (some (aI q.1), q.2) 23 [none, none] [aI s0] σ := by
  intro s0 σ q h
  unfold f_X6_sign_23 at h
  cases h
  exact aw_iret rfl (by decide +kernel)
def f_X6_sign_22 (κ : Kd) (x : Nat)   (σ : Sg) : Option (Int32 × Sg) :=
  f_X6_sign_23 κ x (-1) σ
set_option maxRecDepth 100000 in
set_option maxHeartbeats 4000000 in
theorem ok_X6_sign_22 {κ : Kd} {x : Nat}   : ∀  (σ : Sg) (q : (Int32 × Sg)), f_X6_sign_22 κ x  σ = some q → AW κ pX6_sign 1 (some (aI q.1), q.2) 22 [none, none] [] σ := by
  intro  σ q h
  unfold f_X6_sign_22 at h
  refine aw_seq [(.iconst (-1), 1, (axI (-1)))] (pc' := 23) (L' := [none, none]) (stk' := [aI (-1)]) (σ' := σ) (g := []) (by decide +kernel) rfl rfl ?_
  refine aw_forget (L' := [none, none]) (lsub_n (lsub_n (lsub_0))) ?_
  exact ok_X6_sign_23 (-1) σ _ h
def f_X6_sign (κ : Kd) (x : Nat) (v1 : Int32) (σ : Sg) : Option (Int32 × Sg) :=
  if v1 < 0 then (
    f_X6_sign_22 κ x σ
  ) else (
    if (Int32.ofNat (lenOf κ (x + 2))) ≤ v1 then (
      f_X6_sign_22 κ x σ
    ) else (
      grd (inb v1 (lenOf κ (x + 2)) && true) <|
      f_X6_sign_23 κ x (σ.1 (x + 2) (ix v1)) σ
    )
  )
set_option maxRecDepth 100000 in
set_option maxHeartbeats 4000000 in
theorem ok_X6_sign {κ : Kd} {x : Nat} {v1 : Int32} {σ : Sg} {q : (Int32 × Sg)} (h : f_X6_sign κ x v1 σ = some q) : AMet κ pX6_sign 1 [aR 6 0 x, aI v1] σ (some (aI q.1), q.2) := by
  unfold f_X6_sign at h
  refine amet_of okp_X6_sign [(false, aR 6 0 x), (false, aI v1)] (List.forall_mem_cons.mpr ⟨rfl, List.forall_mem_cons.mpr ⟨rfl, (fun _ hn => absurd hn List.not_mem_nil)⟩⟩) 0 rfl ?_
  show AW κ pX6_sign 1 (some (aI q.1), q.2) 0 [some (aR 6 0 x), some (aI v1)] [] σ
  refine aw_seq [(.iload_n 1, 1, ax0)] (pc' := 1) (L' := [some (aR 6 0 x), some (aI v1)]) (stk' := [aI v1]) (σ' := σ) (g := []) (by decide +kernel) rfl rfl ?_
  refine aw_if_lt (off := 21) (tgt := 22) (by decide +kernel) (by decide) (fun c1 => ?_) (fun c1 => ?_)
  · rw [if_pos c1] at h
    refine aw_forget (L' := [none, none]) (lsub_n (lsub_n (lsub_0))) ?_
    exact ok_X6_sign_22 σ _ h
  · rw [if_neg c1] at h
    refine aw_seq [(.iload_n 1, 1, ax0), (.aload_n 0, 1, ax0), (.getfield 15, 3, (axF 6 1 (2, 2, 13, none))), (.arraylength, 1, ax0)] (pc' := 10) (L' := [some (aR 6 0 x), some (aI v1)]) (stk' := [aI (Int32.ofNat (lenOf κ (x + 2))), aI v1]) (σ' := σ) (g := []) (by decide +kernel) rfl rfl ?_
    refine aw_icmp_ge (off := 12) (tgt := 22) (by decide +kernel) (by decide) (fun c1 => ?_) (fun c1 => ?_)
    · rw [if_pos c1] at h
      refine aw_forget (L' := [none, none]) (lsub_n (lsub_n (lsub_0))) ?_
      exact ok_X6_sign_22 σ _ h
    · rw [if_neg c1] at h
      obtain ⟨hg, h⟩ := grd_some h
      refine aw_seq [(.aload_n 0, 1, ax0), (.getfield 15, 3, (axF 6 1 (2, 2, 13, none))), (.iload_n 1, 1, ax0), (.iaload, 1, ax0)] (pc' := 19) (L' := [some (aR 6 0 x), some (aI v1)]) (stk' := [aI (σ.1 (x + 2) (ix v1))]) (σ' := σ) (g := [inb v1 (lenOf κ (x + 2))]) (by decide +kernel) rfl hg ?_
      refine aw_goto (off := 4) (tgt := 23) (by decide +kernel) (by decide) ?_
      refine aw_forget (L' := [none, none]) (lsub_n (lsub_n (lsub_0))) ?_
      exact ok_X6_sign_23 (σ.1 (x + 2) (ix v1)) σ _ h
def f_X1_value_189 (κ : Kd) (t : Nat) (x : Nat) (rec_26 : Int32 → Int32 → Int32 → Int32 → Int32 → Sg → Option (Int32 × Sg)) (v4 : Int32) (v5 : Int32) (v6 : Int32) (v7 : Int32) (v8 : Int32) (σ : Sg) : Option (Int32 × Sg) :=
  rec_26 v4 v5 v6 v7 (v8 + (-1)) σ
set_option maxRecDepth 100000 in
set_option maxHeartbeats 4000000 in
theorem ok_X1_value_189 {κ : Kd} {t : Nat} {x : Nat}  {rec_26 : Int32 → Int32 → Int32 → Int32 → Int32 → Sg → Option (Int32 × Sg)} (hrec_26 : ∀ (v4 : Int32) (v5 : Int32) (v6 : Int32) (v7 : Int32) (v8 : Int32) (σ : Sg) (q : (Int32 × Sg)), rec_26 v4 v5 v6 v7 v8 σ = some q → AW κ pX1_value 3 (some (aI q.1), q.2) 26 [some (aR 1 0 47), some (aR 8 0 t), some (aR 6 0 x), none, some (aI v4), some (aI v5), some (aI v6), some (aI v7), some (aI v8), none, none, none] [] σ) : ∀ (v4 : Int32) (v5 : Int32) (v6 : Int32) (v7 : Int32) (v8 : Int32) (σ : Sg) (q : (Int32 × Sg)), f_X1_value_189 κ t x rec_26 v4 v5 v6 v7 v8 σ = some q → AW κ pX1_value 3 (some (aI q.1), q.2) 189 [some (aR 1 0 47), some (aR 8 0 t), some (aR 6 0 x), none, some (aI v4), some (aI v5), some (aI v6), some (aI v7), some (aI v8), none, none, none] [] σ := by
  intro v4 v5 v6 v7 v8 σ q h
  unfold f_X1_value_189 at h
  refine aw_seq [(.iinc 8 (-1), 3, (axI (-1)))] (pc' := 192) (L' := [some (aR 1 0 47), some (aR 8 0 t), some (aR 6 0 x), none, some (aI v4), some (aI v5), some (aI v6), some (aI v7), some (aI (v8 + (-1))), none, none, none]) (stk' := []) (σ' := σ) (g := []) (by decide +kernel) rfl rfl ?_
  refine aw_goto (off := (-166)) (tgt := 26) (by decide +kernel) (by decide) ?_
  refine aw_forget (L' := [some (aR 1 0 47), some (aR 8 0 t), some (aR 6 0 x), none, some (aI v4), some (aI v5), some (aI v6), some (aI v7), some (aI (v8 + (-1))), none, none, none]) (lsub_s (lsub_s (lsub_s (lsub_n (lsub_s (lsub_s (lsub_s (lsub_s (lsub_s (lsub_n (lsub_n (lsub_n (lsub_0))))))))))))) ?_
  exact hrec_26 v4 v5 v6 v7 (v8 + (-1)) σ _ h
def f_X1_value_108 (κ : Kd) (t : Nat) (x : Nat) (rec_26 : Int32 → Int32 → Int32 → Int32 → Int32 → Sg → Option (Int32 × Sg)) (v4 : Int32) (v5 : Int32) (v7 : Int32) (v8 : Int32) (s0 : Int32) (σ : Sg) : Option (Int32 × Sg) :=
  f_X1_value_189 κ t x rec_26 v4 v5 s0 v7 v8 σ
set_option maxRecDepth 100000 in
set_option maxHeartbeats 4000000 in
theorem ok_X1_value_108 {κ : Kd} {t : Nat} {x : Nat}  {rec_26 : Int32 → Int32 → Int32 → Int32 → Int32 → Sg → Option (Int32 × Sg)} (hrec_26 : ∀ (v4 : Int32) (v5 : Int32) (v6 : Int32) (v7 : Int32) (v8 : Int32) (σ : Sg) (q : (Int32 × Sg)), rec_26 v4 v5 v6 v7 v8 σ = some q → AW κ pX1_value 3 (some (aI q.1), q.2) 26 [some (aR 1 0 47), some (aR 8 0 t), some (aR 6 0 x), none, some (aI v4), some (aI v5), some (aI v6), some (aI v7), some (aI v8), none, none, none] [] σ) : ∀ (v4 : Int32) (v5 : Int32) (v7 : Int32) (v8 : Int32) (s0 : Int32) (σ : Sg) (q : (Int32 × Sg)), f_X1_value_108 κ t x rec_26 v4 v5 v7 v8 s0 σ = some q → AW κ pX1_value 3 (some (aI q.1), q.2) 108 [some (aR 1 0 47), some (aR 8 0 t), some (aR 6 0 x), none, some (aI v4), some (aI v5), none, some (aI v7), some (aI v8), none, none, none] [aI s0] σ := by
  intro v4 v5 v7 v8 s0 σ q h
  unfold f_X1_value_108 at h
  refine aw_seq [(.istore 6, 2, ax0)] (pc' := 110) (L' := [some (aR 1 0 47), some (aR 8 0 t), some (aR 6 0 x), none, some (aI v4), some (aI v5), some (aI s0), some (aI v7), some (aI v8), none, none, none]) (stk' := []) (σ' := σ) (g := []) (by decide +kernel) rfl rfl ?_
  refine aw_goto (off := 79) (tgt := 189) (by decide +kernel) (by decide) ?_
  refine aw_forget (L' := [some (aR 1 0 47), some (aR 8 0 t), some (aR 6 0 x), none, some (aI v4), some (aI v5), some (aI s0), some (aI v7), some (aI v8), none, none, none]) (lsub_s (lsub_s (lsub_s (lsub_n (lsub_s (lsub_s (lsub_s (lsub_s (lsub_s (lsub_n (lsub_n (lsub_n (lsub_0))))))))))))) ?_
  exact ok_X1_value_189 hrec_26 v4 v5 s0 v7 v8 σ _ h
def f_X1_value_144 (κ : Kd) (t : Nat) (x : Nat) (rec_26 : Int32 → Int32 → Int32 → Int32 → Int32 → Sg → Option (Int32 × Sg)) (v4 : Int32) (v5 : Int32) (v6 : Int32) (v7 : Int32) (v8 : Int32) (v9 : Int32) (σ : Sg) : Option (Int32 × Sg) :=
  if v9 < 46 then (
    bnd (f_X1_pop σ) fun r3 σ2 =>
    bnd (f_X1_pop σ2) fun r6 σ5 =>
    bnd (f_X1_ofTwo v9 r6 r3 σ5) fun r9 σ8 =>
    bndV (f_X1_push r9 σ8) fun σ11 =>
    f_X1_value_189 κ t x rec_26 v4 v5 v6 v7 v8 σ11
  ) else (
    bnd (f_X1_pop σ) fun r14 σ13 =>
    bnd (f_X1_ofOne t v9 r14 σ13) fun r17 σ16 =>
    bndV (f_X1_push r17 σ16) fun σ19 =>
    f_X1_value_189 κ t x rec_26 v4 v5 v6 v7 v8 σ19
  )
set_option maxRecDepth 100000 in
set_option maxHeartbeats 4000000 in
theorem ok_X1_value_144 {κ : Kd} {t : Nat} {x : Nat}  {rec_26 : Int32 → Int32 → Int32 → Int32 → Int32 → Sg → Option (Int32 × Sg)} (hrec_26 : ∀ (v4 : Int32) (v5 : Int32) (v6 : Int32) (v7 : Int32) (v8 : Int32) (σ : Sg) (q : (Int32 × Sg)), rec_26 v4 v5 v6 v7 v8 σ = some q → AW κ pX1_value 3 (some (aI q.1), q.2) 26 [some (aR 1 0 47), some (aR 8 0 t), some (aR 6 0 x), none, some (aI v4), some (aI v5), some (aI v6), some (aI v7), some (aI v8), none, none, none] [] σ) : ∀ (v4 : Int32) (v5 : Int32) (v6 : Int32) (v7 : Int32) (v8 : Int32) (v9 : Int32) (σ : Sg) (q : (Int32 × Sg)), f_X1_value_144 κ t x rec_26 v4 v5 v6 v7 v8 v9 σ = some q → AW κ pX1_value 3 (some (aI q.1), q.2) 144 [some (aR 1 0 47), some (aR 8 0 t), some (aR 6 0 x), none, some (aI v4), some (aI v5), some (aI v6), some (aI v7), some (aI v8), some (aI v9), none, none] [] σ := by
  intro v4 v5 v6 v7 v8 v9 σ q h
  unfold f_X1_value_144 at h
  refine aw_seq [(.iload 9, 2, ax0), (.bipush 46, 2, (axI 46))] (pc' := 148) (L' := [some (aR 1 0 47), some (aR 8 0 t), some (aR 6 0 x), none, some (aI v4), some (aI v5), some (aI v6), some (aI v7), some (aI v8), some (aI v9), none, none]) (stk' := [aI 46, aI v9]) (σ' := σ) (g := []) (by decide +kernel) rfl rfl ?_
  refine aw_icmp_lt (off := 20) (tgt := 168) (by decide +kernel) (by decide) (fun c1 => ?_) (fun c1 => ?_)
  · rw [if_pos c1] at h
    refine aw_seq [(.aload_n 0, 1, ax0)] (pc' := 169) (L' := [some (aR 1 0 47), some (aR 8 0 t), some (aR 6 0 x), none, some (aI v4), some (aI v5), some (aI v6), some (aI v7), some (aI v8), some (aI v9), none, none]) (stk' := [aR 1 0 47]) (σ' := σ) (g := []) (by decide +kernel) rfl rfl ?_
    obtain ⟨r3, σ2, h1, h⟩ := bnd_some h
    refine aw_cV (P' := pX1_pop) (idx := 115) (d' := 1) (c := 1) (n := 0) (k := 47) [] [] (ov := (some (aI r3))) (stk2 := [aI r3]) okp_X1_pop (by decide +kernel) ml_RX1_115 vok_X1_pop (by decide) rfl nar_X1_pop (by decide) rfl (Nat.le_of_ble_eq_true rfl) (ok_X1_pop h1) rfl ?_
    refine aw_seq [(.istore 11, 2, ax0), (.aload_n 0, 1, ax0), (.iload 9, 2, ax0), (.aload_n 0, 1, ax0)] (pc' := 178) (L' := [some (aR 1 0 47), some (aR 8 0 t), some (aR 6 0 x), none, some (aI v4), some (aI v5), some (aI v6), some (aI v7), some (aI v8), some (aI v9), none, some (aI r3)]) (stk' := [aR 1 0 47, aI v9, aR 1 0 47]) (σ' := σ2) (g := []) (by decide +kernel) rfl rfl ?_
    obtain ⟨r6, σ5, h4, h⟩ := bnd_some h
    refine aw_cV (P' := pX1_pop) (idx := 115) (d' := 1) (c := 1) (n := 0) (k := 47) [] [aI v9, aR 1 0 47] (ov := (some (aI r6))) (stk2 := [aI r6, aI v9, aR 1 0 47]) okp_X1_pop (by decide +kernel) ml_RX1_115 vok_X1_pop (by decide) rfl nar_X1_pop (by decide) rfl (Nat.le_of_ble_eq_true rfl) (ok_X1_pop h4) rfl ?_
    refine aw_seq [(.iload 11, 2, ax0)] (pc' := 183) (L' := [some (aR 1 0 47), some (aR 8 0 t), some (aR 6 0 x), none, some (aI v4), some (aI v5), some (aI v6), some (aI v7), some (aI v8), some (aI v9), none, some (aI r3)]) (stk' := [aI r3, aI r6, aI v9, aR 1 0 47]) (σ' := σ5) (g := []) (by decide +kernel) rfl rfl ?_
    obtain ⟨r9, σ8, h7, h⟩ := bnd_some h
    refine aw_cS (P' := pX1_ofTwo) (idx := 125) (d' := 2) [aI v9, aI r6, aI r3] [aR 1 0 47] (ov := (some (aI r9))) (stk2 := [aI r9, aR 1 0 47]) okp_X1_ofTwo (by decide +kernel) ml_RX1_125 tok_X1_ofTwo nar_X1_ofTwo (by decide) rfl (Nat.le_of_ble_eq_true rfl) (ok_X1_ofTwo h7) rfl ?_
    obtain ⟨σ11, h10, h⟩ := bndV_some h
    refine aw_cV (P' := pX1_push) (idx := 111) (d' := 1) (c := 1) (n := 0) (k := 47) [aI r9] [] (ov := none) (stk2 := []) okp_X1_push (by decide +kernel) ml_RX1_111 vok_X1_push (by decide) rfl nar_X1_push (by decide) rfl (Nat.le_of_ble_eq_true rfl) (ok_X1_push h10) rfl ?_
    refine aw_forget (L' := [some (aR 1 0 47), some (aR 8 0 t), some (aR 6 0 x), none, some (aI v4), some (aI v5), some (aI v6), some (aI v7), some (aI v8), none, none, none]) (lsub_s (lsub_s (lsub_s (lsub_n (lsub_s (lsub_s (lsub_s (lsub_s (lsub_s (lsub_n (lsub_n (lsub_n (lsub_0))))))))))))) ?_
    exact ok_X1_value_189 hrec_26 v4 v5 v6 v7 v8 σ11 _ h
  · rw [if_neg c1] at h
    refine aw_seq [(.aload_n 0, 1, ax0), (.aload_n 1, 1, ax0), (.iload 9, 2, ax0), (.aload_n 0, 1, ax0)] (pc' := 156) (L' := [some (aR 1 0 47), some (aR 8 0 t), some (aR 6 0 x), none, some (aI v4), some (aI v5), some (aI v6), some (aI v7), some (aI v8), some (aI v9), none, none]) (stk' := [aR 1 0 47, aI v9, aR 8 0 t, aR 1 0 47]) (σ' := σ) (g := []) (by decide +kernel) rfl rfl ?_
    obtain ⟨r14, σ13, h12, h⟩ := bnd_some h
    refine aw_cV (P' := pX1_pop) (idx := 115) (d' := 1) (c := 1) (n := 0) (k := 47) [] [aI v9, aR 8 0 t, aR 1 0 47] (ov := (some (aI r14))) (stk2 := [aI r14, aI v9, aR 8 0 t, aR 1 0 47]) okp_X1_pop (by decide +kernel) ml_RX1_115 vok_X1_pop (by decide) rfl nar_X1_pop (by decide) rfl (Nat.le_of_ble_eq_true rfl) (ok_X1_pop h12) rfl ?_
    obtain ⟨r17, σ16, h15, h⟩ := bnd_some h
    refine aw_cS (P' := pX1_ofOne) (idx := 121) (d' := 2) [aR 8 0 t, aI v9, aI r14] [aR 1 0 47] (ov := (some (aI r17))) (stk2 := [aI r17, aR 1 0 47]) okp_X1_ofOne (by decide +kernel) ml_RX1_121 tok_X1_ofOne nar_X1_ofOne (by decide) rfl (Nat.le_of_ble_eq_true rfl) (ok_X1_ofOne h15) rfl ?_
    obtain ⟨σ19, h18, h⟩ := bndV_some h
    refine aw_cV (P' := pX1_push) (idx := 111) (d' := 1) (c := 1) (n := 0) (k := 47) [aI r17] [] (ov := none) (stk2 := []) okp_X1_push (by decide +kernel) ml_RX1_111 vok_X1_push (by decide) rfl nar_X1_push (by decide) rfl (Nat.le_of_ble_eq_true rfl) (ok_X1_push h18) rfl ?_
    refine aw_goto (off := 24) (tgt := 189) (by decide +kernel) (by decide) ?_
    refine aw_forget (L' := [some (aR 1 0 47), some (aR 8 0 t), some (aR 6 0 x), none, some (aI v4), some (aI v5), some (aI v6), some (aI v7), some (aI v8), none, none, none]) (lsub_s (lsub_s (lsub_s (lsub_n (lsub_s (lsub_s (lsub_s (lsub_s (lsub_s (lsub_n (lsub_n (lsub_n (lsub_0))))))))))))) ?_
    exact ok_X1_value_189 hrec_26 v4 v5 v6 v7 v8 σ19 _ h
def f_X1_value_195 (κ : Kd) (t : Nat) (x : Nat)   (σ : Sg) : Option (Int32 × Sg) :=
  bnd (f_X1_pop σ) fun r22 σ21 =>
  some (r22, σ21)
set_option maxRecDepth 100000 in
set_option maxHeartbeats 4000000 in
theorem ok_X1_value_195 {κ : Kd} {t : Nat} {x : Nat}   : ∀  (σ : Sg) (q : (Int32 × Sg)), f_X1_value_195 κ t x  σ = some q → AW κ pX1_value 3 (some (aI q.1), q.2) 195 [some (aR 1 0 47), none, none, none, none, none, none, none, none, none, none, none] [] σ := by
  intro  σ q h
  unfold f_X1_value_195 at h
  refine aw_seq [(.aload_n 0, 1, ax0)] (pc' := 196) (L' := [some (aR 1 0 47), none, none, none, none, none, none, none, none, none, none, none]) (stk' := [aR 1 0 47]) (σ' := σ) (g := []) (by decide +kernel) rfl rfl ?_
  obtain ⟨r22, σ21, h20, h⟩ := bnd_some h
  refine aw_cV (P' := pX1_pop) (idx := 115) (d' := 1) (c := 1) (n := 0) (k := 47) [] [] (ov := (some (aI r22))) (stk2 := [aI r22]) okp_X1_pop (by decide +kernel) ml_RX1_115 vok_X1_pop (by decide) rfl nar_X1_pop (by decide) rfl (Nat.le_of_ble_eq_true rfl) (ok_X1_pop h20) rfl ?_
  cases h
  exact aw_iret rfl (by decide +kernel)
def f_X1_value_26 (κ : Kd) (t : Nat) (x : Nat)  : Nat → Int32 → Int32 → Int32 → Int32 → Int32 → Sg → Option (Int32 × Sg)
  | 0, _, _, _, _, _, _ => none
  | fu + 1, v4, v5, v6, v7, v8, σ =>
    if v8 ≤ 0 then (
      f_X1_value_195 κ t x σ
    ) else (
      if v7 ≤ v6 then (
        f_X1_value_195 κ t x σ
      ) else (
        bnd (f_X6_sign κ x v6 σ) fun r25 σ24 =>
        bnd (f_X6_argument κ x v6 σ24) fun r28 σ27 =>
        if r25 = 43 then (
          bndV (f_X1_push r28 σ27) fun σ38 =>
          f_X1_value_189 κ t x (f_X1_value_26 κ t x fu) v4 v5 (v6 + 1) v7 v8 σ38
        ) else (
          if r25 = 26 then (
            f_X1_value_189 κ t x (f_X1_value_26 κ t x fu) v4 v5 r28 v7 v8 σ27
          ) else (
            if r25 = 24 then (
              bnd (f_X1_pop σ27) fun r36 σ35 =>
              if r36 = 0 then (
                f_X1_value_108 κ t x (f_X1_value_26 κ t x fu) v4 v5 v7 v8 r28 σ35
              ) else (
                f_X1_value_108 κ t x (f_X1_value_26 κ t x fu) v4 v5 v7 v8 (v6 + 1) σ35
              )
            ) else (
              if r25 < 11 then (
                f_X1_value_144 κ t x (f_X1_value_26 κ t x fu) v4 v5 (v6 + 1) v7 v8 r25 σ27
              ) else (
                if 19 < r25 then (
                  f_X1_value_144 κ t x (f_X1_value_26 κ t x fu) v4 v5 (v6 + 1) v7 v8 r25 σ27
                ) else (
                  bnd (f_X1_named t r25 v4 v5 σ27) fun r31 σ30 =>
                  bndV (f_X1_push r31 σ30) fun σ33 =>
                  f_X1_value_189 κ t x (f_X1_value_26 κ t x fu) v4 v5 (v6 + 1) v7 v8 σ33
                )
              )
            )
          )
        )
      )
    )
set_option maxRecDepth 100000 in
set_option maxHeartbeats 4000000 in
theorem ok_X1_value_26 {κ : Kd} {t : Nat} {x : Nat}   : ∀ (fu : Nat) (v4 : Int32) (v5 : Int32) (v6 : Int32) (v7 : Int32) (v8 : Int32) (σ : Sg) (q : (Int32 × Sg)), f_X1_value_26 κ t x fu v4 v5 v6 v7 v8 σ = some q → AW κ pX1_value 3 (some (aI q.1), q.2) 26 [some (aR 1 0 47), some (aR 8 0 t), some (aR 6 0 x), none, some (aI v4), some (aI v5), some (aI v6), some (aI v7), some (aI v8), none, none, none] [] σ := by
  intro fu
  induction fu with
  | zero =>
    intro v4 v5 v6 v7 v8 σ q h
    unfold f_X1_value_26 at h
    cases h
  | succ fu ih =>
    intro v4 v5 v6 v7 v8 σ q h
    unfold f_X1_value_26 at h
    refine aw_seq [(.iload 8, 2, ax0)] (pc' := 28) (L' := [some (aR 1 0 47), some (aR 8 0 t), some (aR 6 0 x), none, some (aI v4), some (aI v5), some (aI v6), some (aI v7), some (aI v8), none, none, none]) (stk' := [aI v8]) (σ' := σ) (g := []) (by decide +kernel) rfl rfl ?_
    refine aw_if_le (off := 167) (tgt := 195) (by decide +kernel) (by decide) (fun c1 => ?_) (fun c1 => ?_)
    · rw [if_pos c1] at h
      refine aw_forget (L' := [some (aR 1 0 47), none, none, none, none, none, none, none, none, none, none, none]) (lsub_s (lsub_n (lsub_n (lsub_n (lsub_n (lsub_n (lsub_n (lsub_n (lsub_n (lsub_n (lsub_n (lsub_n (lsub_0))))))))))))) ?_
      exact ok_X1_value_195 σ _ h
    · rw [if_neg c1] at h
      refine aw_seq [(.iload 6, 2, ax0), (.iload 7, 2, ax0)] (pc' := 35) (L' := [some (aR 1 0 47), some (aR 8 0 t), some (aR 6 0 x), none, some (aI v4), some (aI v5), some (aI v6), some (aI v7), some (aI v8), none, none, none]) (stk' := [aI v7, aI v6]) (σ' := σ) (g := []) (by decide +kernel) rfl rfl ?_
      refine aw_icmp_ge (off := 160) (tgt := 195) (by decide +kernel) (by decide) (fun c1 => ?_) (fun c1 => ?_)
      · rw [if_pos c1] at h
        refine aw_forget (L' := [some (aR 1 0 47), none, none, none, none, none, none, none, none, none, none, none]) (lsub_s (lsub_n (lsub_n (lsub_n (lsub_n (lsub_n (lsub_n (lsub_n (lsub_n (lsub_n (lsub_n (lsub_n (lsub_0))))))))))))) ?_
        exact ok_X1_value_195 σ _ h
      · rw [if_neg c1] at h
        refine aw_seq [(.aload_n 2, 1, ax0), (.iload 6, 2, ax0)] (pc' := 41) (L' := [some (aR 1 0 47), some (aR 8 0 t), some (aR 6 0 x), none, some (aI v4), some (aI v5), some (aI v6), some (aI v7), some (aI v8), none, none, none]) (stk' := [aI v6, aR 6 0 x]) (σ' := σ) (g := []) (by decide +kernel) rfl rfl ?_
        obtain ⟨r25, σ24, h23, h⟩ := bnd_some h
        refine aw_cV (P' := pX6_sign) (idx := 105) (d' := 1) (c := 6) (n := 0) (k := x) [aI v6] [] (ov := (some (aI r25))) (stk2 := [aI r25]) okp_X6_sign (by decide +kernel) ml_RX1_105 vok_X6_sign (by decide) rfl nar_X6_sign (by decide) rfl (Nat.le_of_ble_eq_true rfl) (ok_X6_sign h23) rfl ?_
        refine aw_seq [(.istore 9, 2, ax0), (.aload_n 2, 1, ax0), (.iload 6, 2, ax0)] (pc' := 49) (L' := [some (aR 1 0 47), some (aR 8 0 t), some (aR 6 0 x), none, some (aI v4), some (aI v5), some (aI v6), some (aI v7), some (aI v8), some (aI r25), none, none]) (stk' := [aI v6, aR 6 0 x]) (σ' := σ24) (g := []) (by decide +kernel) rfl rfl ?_
        obtain ⟨r28, σ27, h26, h⟩ := bnd_some h
        refine aw_cV (P' := pX6_argument) (idx := 108) (d' := 1) (c := 6) (n := 0) (k := x) [aI v6] [] (ov := (some (aI r28))) (stk2 := [aI r28]) okp_X6_argument (by decide +kernel) ml_RX1_108 vok_X6_argument (by decide) rfl nar_X6_argument (by decide) rfl (Nat.le_of_ble_eq_true rfl) (ok_X6_argument h26) rfl ?_
        refine aw_seq [(.istore 10, 2, ax0), (.iinc 6 1, 3, (axI 1)), (.iload 9, 2, ax0), (.bipush 43, 2, (axI 43))] (pc' := 61) (L' := [some (aR 1 0 47), some (aR 8 0 t), some (aR 6 0 x), none, some (aI v4), some (aI v5), some (aI (v6 + 1)), some (aI v7), some (aI v8), some (aI r25), some (aI r28), none]) (stk' := [aI 43, aI r25]) (σ' := σ27) (g := []) (by decide +kernel) rfl rfl ?_
        refine aw_icmp_ne (off := 12) (tgt := 73) (by decide +kernel) (by decide) (fun c1 => ?_) (fun c1 => ?_)
        · rw [if_neg c1] at h
          refine aw_seq [(.iload 9, 2, ax0), (.bipush 26, 2, (axI 26))] (pc' := 77) (L' := [some (aR 1 0 47), some (aR 8 0 t), some (aR 6 0 x), none, some (aI v4), some (aI v5), some (aI (v6 + 1)), some (aI v7), some (aI v8), some (aI r25), some (aI r28), none]) (stk' := [aI 26, aI r25]) (σ' := σ27) (g := []) (by decide +kernel) rfl rfl ?_
          refine aw_icmp_ne (off := 10) (tgt := 87) (by decide +kernel) (by decide) (fun c1 => ?_) (fun c1 => ?_)
          · rw [if_neg c1] at h
            refine aw_seq [(.iload 9, 2, ax0), (.bipush 24, 2, (axI 24))] (pc' := 91) (L' := [some (aR 1 0 47), some (aR 8 0 t), some (aR 6 0 x), none, some (aI v4), some (aI v5), some (aI (v6 + 1)), some (aI v7), some (aI v8), some (aI r25), some (aI r28), none]) (stk' := [aI 24, aI r25]) (σ' := σ27) (g := []) (by decide +kernel) rfl rfl ?_
            refine aw_icmp_ne (off := 22) (tgt := 113) (by decide +kernel) (by decide) (fun c1 => ?_) (fun c1 => ?_)
            · rw [if_neg c1] at h
              refine aw_seq [(.iload 9, 2, ax0), (.bipush 11, 2, (axI 11))] (pc' := 117) (L' := [some (aR 1 0 47), some (aR 8 0 t), some (aR 6 0 x), none, some (aI v4), some (aI v5), some (aI (v6 + 1)), some (aI v7), some (aI v8), some (aI r25), some (aI r28), none]) (stk' := [aI 11, aI r25]) (σ' := σ27) (g := []) (by decide +kernel) rfl rfl ?_
              refine aw_icmp_lt (off := 27) (tgt := 144) (by decide +kernel) (by decide) (fun c1 => ?_) (fun c1 => ?_)
              · rw [if_pos c1] at h
                refine aw_forget (L' := [some (aR 1 0 47), some (aR 8 0 t), some (aR 6 0 x), none, some (aI v4), some (aI v5), some (aI (v6 + 1)), some (aI v7), some (aI v8), some (aI r25), none, none]) (lsub_s (lsub_s (lsub_s (lsub_n (lsub_s (lsub_s (lsub_s (lsub_s (lsub_s (lsub_s (lsub_n (lsub_n (lsub_0))))))))))))) ?_
                exact ok_X1_value_144 ih v4 v5 (v6 + 1) v7 v8 r25 σ27 _ h
              · rw [if_neg c1] at h
                refine aw_seq [(.iload 9, 2, ax0), (.bipush 19, 2, (axI 19))] (pc' := 124) (L' := [some (aR 1 0 47), some (aR 8 0 t), some (aR 6 0 x), none, some (aI v4), some (aI v5), some (aI (v6 + 1)), some (aI v7), some (aI v8), some (aI r25), some (aI r28), none]) (stk' := [aI 19, aI r25]) (σ' := σ27) (g := []) (by decide +kernel) rfl rfl ?_
                refine aw_icmp_gt (off := 20) (tgt := 144) (by decide +kernel) (by decide) (fun c1 => ?_) (fun c1 => ?_)
                · rw [if_pos c1] at h
                  refine aw_forget (L' := [some (aR 1 0 47), some (aR 8 0 t), some (aR 6 0 x), none, some (aI v4), some (aI v5), some (aI (v6 + 1)), some (aI v7), some (aI v8), some (aI r25), none, none]) (lsub_s (lsub_s (lsub_s (lsub_n (lsub_s (lsub_s (lsub_s (lsub_s (lsub_s (lsub_s (lsub_n (lsub_n (lsub_0))))))))))))) ?_
                  exact ok_X1_value_144 ih v4 v5 (v6 + 1) v7 v8 r25 σ27 _ h
                · rw [if_neg c1] at h
                  refine aw_seq [(.aload_n 0, 1, ax0), (.aload_n 1, 1, ax0), (.iload 9, 2, ax0), (.iload 4, 2, ax0), (.iload 5, 2, ax0)] (pc' := 135) (L' := [some (aR 1 0 47), some (aR 8 0 t), some (aR 6 0 x), none, some (aI v4), some (aI v5), some (aI (v6 + 1)), some (aI v7), some (aI v8), some (aI r25), some (aI r28), none]) (stk' := [aI v5, aI v4, aI r25, aR 8 0 t, aR 1 0 47]) (σ' := σ27) (g := []) (by decide +kernel) rfl rfl ?_
                  obtain ⟨r31, σ30, h29, h⟩ := bnd_some h
                  refine aw_cS (P' := pX1_named) (idx := 118) (d' := 2) [aR 8 0 t, aI r25, aI v4, aI v5] [aR 1 0 47] (ov := (some (aI r31))) (stk2 := [aI r31, aR 1 0 47]) okp_X1_named (by decide +kernel) ml_RX1_118 tok_X1_named nar_X1_named (by decide) rfl (Nat.le_of_ble_eq_true rfl) (ok_X1_named h29) rfl ?_
                  obtain ⟨σ33, h32, h⟩ := bndV_some h
                  refine aw_cV (P' := pX1_push) (idx := 111) (d' := 1) (c := 1) (n := 0) (k := 47) [aI r31] [] (ov := none) (stk2 := []) okp_X1_push (by decide +kernel) ml_RX1_111 vok_X1_push (by decide) rfl nar_X1_push (by decide) rfl (Nat.le_of_ble_eq_true rfl) (ok_X1_push h32) rfl ?_
                  refine aw_goto (off := 48) (tgt := 189) (by decide +kernel) (by decide) ?_
                  refine aw_forget (L' := [some (aR 1 0 47), some (aR 8 0 t), some (aR 6 0 x), none, some (aI v4), some (aI v5), some (aI (v6 + 1)), some (aI v7), some (aI v8), none, none, none]) (lsub_s (lsub_s (lsub_s (lsub_n (lsub_s (lsub_s (lsub_s (lsub_s (lsub_s (lsub_n (lsub_n (lsub_n (lsub_0))))))))))))) ?_
                  exact ok_X1_value_189 ih v4 v5 (v6 + 1) v7 v8 σ33 _ h
            · rw [if_pos c1] at h
              refine aw_seq [(.aload_n 0, 1, ax0)] (pc' := 95) (L' := [some (aR 1 0 47), some (aR 8 0 t), some (aR 6 0 x), none, some (aI v4), some (aI v5), some (aI (v6 + 1)), some (aI v7), some (aI v8), some (aI r25), some (aI r28), none]) (stk' := [aR 1 0 47]) (σ' := σ27) (g := []) (by decide +kernel) rfl rfl ?_
              obtain ⟨r36, σ35, h34, h⟩ := bnd_some h
              refine aw_cV (P' := pX1_pop) (idx := 115) (d' := 1) (c := 1) (n := 0) (k := 47) [] [] (ov := (some (aI r36))) (stk2 := [aI r36]) okp_X1_pop (by decide +kernel) ml_RX1_115 vok_X1_pop (by decide) rfl nar_X1_pop (by decide) rfl (Nat.le_of_ble_eq_true rfl) (ok_X1_pop h34) rfl ?_
              refine aw_if_ne (off := 8) (tgt := 106) (by decide +kernel) (by decide) (fun c1 => ?_) (fun c1 => ?_)
              · rw [if_neg c1] at h
                refine aw_seq [(.iload 6, 2, ax0)] (pc' := 108) (L' := [some (aR 1 0 47), some (aR 8 0 t), some (aR 6 0 x), none, some (aI v4), some (aI v5), some (aI (v6 + 1)), some (aI v7), some (aI v8), some (aI r25), some (aI r28), none]) (stk' := [aI (v6 + 1)]) (σ' := σ35) (g := []) (by decide +kernel) rfl rfl ?_
                refine aw_forget (L' := [some (aR 1 0 47), some (aR 8 0 t), some (aR 6 0 x), none, some (aI v4), some (aI v5), none, some (aI v7), some (aI v8), none, none, none]) (lsub_s (lsub_s (lsub_s (lsub_n (lsub_s (lsub_s (lsub_n (lsub_s (lsub_s (lsub_n (lsub_n (lsub_n (lsub_0))))))))))))) ?_
                exact ok_X1_value_108 ih v4 v5 v7 v8 (v6 + 1) σ35 _ h
              · rw [if_pos c1] at h
                refine aw_seq [(.iload 10, 2, ax0)] (pc' := 103) (L' := [some (aR 1 0 47), some (aR 8 0 t), some (aR 6 0 x), none, some (aI v4), some (aI v5), some (aI (v6 + 1)), some (aI v7), some (aI v8), some (aI r25), some (aI r28), none]) (stk' := [aI r28]) (σ' := σ35) (g := []) (by decide +kernel) rfl rfl ?_
                refine aw_goto (off := 5) (tgt := 108) (by decide +kernel) (by decide) ?_
                refine aw_forget (L' := [some (aR 1 0 47), some (aR 8 0 t), some (aR 6 0 x), none, some (aI v4), some (aI v5), none, some (aI v7), some (aI v8), none, none, none]) (lsub_s (lsub_s (lsub_s (lsub_n (lsub_s (lsub_s (lsub_n (lsub_s (lsub_s (lsub_n (lsub_n (lsub_n (lsub_0))))))))))))) ?_
                exact ok_X1_value_108 ih v4 v5 v7 v8 r28 σ35 _ h
          · rw [if_pos c1] at h
            refine aw_seq [(.iload 10, 2, ax0), (.istore 6, 2, ax0)] (pc' := 84) (L' := [some (aR 1 0 47), some (aR 8 0 t), some (aR 6 0 x), none, some (aI v4), some (aI v5), some (aI r28), some (aI v7), some (aI v8), some (aI r25), some (aI r28), none]) (stk' := []) (σ' := σ27) (g := []) (by decide +kernel) rfl rfl ?_
            refine aw_goto (off := 105) (tgt := 189) (by decide +kernel) (by decide) ?_
            refine aw_forget (L' := [some (aR 1 0 47), some (aR 8 0 t), some (aR 6 0 x), none, some (aI v4), some (aI v5), some (aI r28), some (aI v7), some (aI v8), none, none, none]) (lsub_s (lsub_s (lsub_s (lsub_n (lsub_s (lsub_s (lsub_s (lsub_s (lsub_s (lsub_n (lsub_n (lsub_n (lsub_0))))))))))))) ?_
            exact ok_X1_value_189 ih v4 v5 r28 v7 v8 σ27 _ h
        · rw [if_pos c1] at h
          refine aw_seq [(.aload_n 0, 1, ax0), (.iload 10, 2, ax0)] (pc' := 67) (L' := [some (aR 1 0 47), some (aR 8 0 t), some (aR 6 0 x), none, some (aI v4), some (aI v5), some (aI (v6 + 1)), some (aI v7), some (aI v8), some (aI r25), some (aI r28), none]) (stk' := [aI r28, aR 1 0 47]) (σ' := σ27) (g := []) (by decide +kernel) rfl rfl ?_
          obtain ⟨σ38, h37, h⟩ := bndV_some h
          refine aw_cV (P' := pX1_push) (idx := 111) (d' := 1) (c := 1) (n := 0) (k := 47) [aI r28] [] (ov := none) (stk2 := []) okp_X1_push (by decide +kernel) ml_RX1_111 vok_X1_push (by decide) rfl nar_X1_push (by decide) rfl (Nat.le_of_ble_eq_true rfl) (ok_X1_push h37) rfl ?_
          refine aw_goto (off := 119) (tgt := 189) (by decide +kernel) (by decide) ?_
          refine aw_forget (L' := [some (aR 1 0 47), some (aR 8 0 t), some (aR 6 0 x), none, some (aI v4), some (aI v5), some (aI (v6 + 1)), some (aI v7), some (aI v8), none, none, none]) (lsub_s (lsub_s (lsub_s (lsub_n (lsub_s (lsub_s (lsub_s (lsub_s (lsub_s (lsub_n (lsub_n (lsub_n (lsub_0))))))))))))) ?_
          exact ok_X1_value_189 ih v4 v5 (v6 + 1) v7 v8 σ38 _ h
def f_X1_value (κ : Kd) (t : Nat) (x : Nat) (v3 : Int32) (v4 : Int32) (v5 : Int32) (σ : Sg) : Option (Int32 × Sg) :=
  ltσ (wI σ 47 1 0) fun σ39 =>
  bnd (f_X6_firstSign κ x v3 σ39) fun r43 σ42 =>
  bnd (f_X6_behindSigns κ x v3 σ42) fun r46 σ45 =>
  f_X1_value_26 κ t x FU v4 v5 r43 r46 (r46 - r43) σ45
set_option maxRecDepth 100000 in
set_option maxHeartbeats 4000000 in
theorem ok_X1_value {κ : Kd} {t : Nat} {x : Nat} {v3 : Int32} {v4 : Int32} {v5 : Int32} {σ : Sg} {q : (Int32 × Sg)} (h : f_X1_value κ t x v3 v4 v5 σ = some q) : AMet κ pX1_value 3 [aR 1 0 47, aR 8 0 t, aR 6 0 x, aI v3, aI v4, aI v5] σ (some (aI q.1), q.2) := by
  unfold f_X1_value at h
  refine amet_of okp_X1_value [(false, aR 1 0 47), (false, aR 8 0 t), (false, aR 6 0 x), (false, aI v3), (false, aI v4), (false, aI v5)] (List.forall_mem_cons.mpr ⟨rfl, List.forall_mem_cons.mpr ⟨rfl, List.forall_mem_cons.mpr ⟨rfl, List.forall_mem_cons.mpr ⟨rfl, List.forall_mem_cons.mpr ⟨rfl, List.forall_mem_cons.mpr ⟨rfl, (fun _ hn => absurd hn List.not_mem_nil)⟩⟩⟩⟩⟩⟩) 6 rfl ?_
  show AW κ pX1_value 3 (some (aI q.1), q.2) 0 [some (aR 1 0 47), some (aR 8 0 t), some (aR 6 0 x), some (aI v3), some (aI v4), some (aI v5), none, none, none, none, none, none] [] σ
  obtain ⟨σ39, e40, h⟩ := ltσ_some h
  refine aw_seq [(.aload_n 0, 1, ax0), (.iconst 0, 1, (axI 0)), (.putfield 99, 3, (axF 1 1 (0, 0, 0, none)))] (pc' := 5) (L' := [some (aR 1 0 47), some (aR 8 0 t), some (aR 6 0 x), some (aI v3), some (aI v4), some (aI v5), none, none, none, none, none, none]) (stk' := []) (σ' := σ39) (g := []) (by decide +kernel) (by rw [e40]; rfl) rfl ?_
  refine aw_seq [(.aload_n 2, 1, ax0), (.iload_n 3, 1, ax0)] (pc' := 7) (L' := [some (aR 1 0 47), some (aR 8 0 t), some (aR 6 0 x), some (aI v3), some (aI v4), some (aI v5), none, none, none, none, none, none]) (stk' := [aI v3, aR 6 0 x]) (σ' := σ39) (g := []) (by decide +kernel) rfl rfl ?_
  obtain ⟨r43, σ42, h41, h⟩ := bnd_some h
  refine aw_cV (P' := pX6_firstSign) (idx := 83) (d' := 1) (c := 6) (n := 0) (k := x) [aI v3] [] (ov := (some (aI r43))) (stk2 := [aI r43]) okp_X6_firstSign (by decide +kernel) ml_RX1_83 vok_X6_firstSign (by decide) rfl nar_X6_firstSign (by decide) rfl (Nat.le_of_ble_eq_true rfl) (ok_X6_firstSign h41) rfl ?_
  refine aw_seq [(.istore 6, 2, ax0), (.aload_n 2, 1, ax0), (.iload_n 3, 1, ax0)] (pc' := 14) (L' := [some (aR 1 0 47), some (aR 8 0 t), some (aR 6 0 x), some (aI v3), some (aI v4), some (aI v5), some (aI r43), none, none, none, none, none]) (stk' := [aI v3, aR 6 0 x]) (σ' := σ42) (g := []) (by decide +kernel) rfl rfl ?_
  obtain ⟨r46, σ45, h44, h⟩ := bnd_some h
  refine aw_cV (P' := pX6_behindSigns) (idx := 102) (d' := 1) (c := 6) (n := 0) (k := x) [aI v3] [] (ov := (some (aI r46))) (stk2 := [aI r46]) okp_X6_behindSigns (by decide +kernel) ml_RX1_102 vok_X6_behindSigns (by decide) rfl nar_X6_behindSigns (by decide) rfl (Nat.le_of_ble_eq_true rfl) (ok_X6_behindSigns h44) rfl ?_
  refine aw_seq [(.istore 7, 2, ax0), (.iload 7, 2, ax0), (.iload 6, 2, ax0), (.isub, 1, ax0), (.istore 8, 2, ax0)] (pc' := 26) (L' := [some (aR 1 0 47), some (aR 8 0 t), some (aR 6 0 x), some (aI v3), some (aI v4), some (aI v5), some (aI r43), some (aI r46), some (aI (r46 - r43)), none, none, none]) (stk' := []) (σ' := σ45) (g := []) (by decide +kernel) rfl rfl ?_
  refine aw_forget (L' := [some (aR 1 0 47), some (aR 8 0 t), some (aR 6 0 x), none, some (aI v4), some (aI v5), some (aI r43), some (aI r46), some (aI (r46 - r43)), none, none, none]) (lsub_s (lsub_s (lsub_s (lsub_n (lsub_s (lsub_s (lsub_s (lsub_s (lsub_s (lsub_n (lsub_n (lsub_n (lsub_0))))))))))))) ?_
  exact ok_X1_value_26 FU v4 v5 r43 r46 (r46 - r43) σ45 _ h
def f_X1_without_54 (t : Nat)  (s0 : Int32) (σ : Sg) : Option (Int32 × Sg) :=
  some (s0, σ)
set_option maxRecDepth 100000 in
set_option maxHeartbeats 4000000 in
theorem ok_X1_without_54 {κ : Kd} {t : Nat}   : ∀ (s0 : Int32) (σ : Sg) (q : (Int32 × Sg)), f_X1_without_54 t s0 σ = some q → AW κ pX1_without 1 (some (aI q.1), q.2) 54 [none, none, none, none, none] [aI s0] σ := by
  intro s0 σ q h
  unfold f_X1_without_54 at h
  cases h
  exact aw_iret rfl (by decide +kernel)
def f_X1_without_81 (t : Nat)  (s0 : Int32) (σ : Sg) : Option (Int32 × Sg) :=
  some (s0, σ)
set_option maxRecDepth 100000 in
set_option maxHeartbeats 4000000 in
theorem ok_X1_without_81 {κ : Kd} {t : Nat}   : ∀ (s0 : Int32) (σ : Sg) (q : (Int32 × Sg)), f_X1_without_81 t s0 σ = some q → AW κ pX1_without 1 (some (aI q.1), q.2) 81 [none, none, none, none, none] [aI s0] σ := by
  intro s0 σ q h
  unfold f_X1_without_81 at h
  cases h
  exact aw_iret rfl (by decide +kernel)
def f_X1_without_15 (t : Nat)  (v1 : Int32) (v2 : Int32) (v3 : Int32) (s0 : Int32) (σ : Sg) : Option (Int32 × Sg) :=
  if v1 = 0 then (
    if s0 = 0 then (
      f_X1_without_54 t 1 σ
    ) else (
      f_X1_without_54 t 3 σ
    )
  ) else (
  if v1 = 1 then (
    if s0 = 0 then (
      grd (inb v2 8 && ((!decide ((4 : Int32) = 0)) && true)) <|
      f_X1_without_81 t ((σ.1 (t + 1) (ix v2)) / 4) σ
    ) else (
      grd (inb v2 8 && ((!decide ((2 : Int32) = 0)) && true)) <|
      f_X1_without_81 t (((σ.1 (t + 1) (ix v2)) / 2) + v3) σ
    )
  ) else (
    some (10, σ)
  ))
set_option maxRecDepth 100000 in
set_option maxHeartbeats 4000000 in
theorem ok_X1_without_15 {κ : Kd} {t : Nat}   : ∀ (v1 : Int32) (v2 : Int32) (v3 : Int32) (s0 : Int32) (σ : Sg) (q : (Int32 × Sg)), f_X1_without_15 t v1 v2 v3 s0 σ = some q → AW κ pX1_without 1 (some (aI q.1), q.2) 15 [some (aR 8 0 t), some (aI v1), some (aI v2), some (aI v3), none] [aI s0] σ := by
  intro v1 v2 v3 s0 σ q h
  unfold f_X1_without_15 at h
  refine aw_seq [(.istore 4, 2, ax0), (.iload_n 1, 1, ax0)] (pc' := 18) (L' := [some (aR 8 0 t), some (aI v1), some (aI v2), some (aI v3), some (aI s0)]) (stk' := [aI v1]) (σ' := σ) (g := []) (by decide +kernel) rfl rfl ?_
  refine aw_lookup (dflt := 64) (ps := #[(0, 26), (1, 37)]) (len := 26) (dt := 82) (by decide +kernel) [(0, 44), (1, 55)] (by decide +kernel) ?_
  refine awsw_cons (fun c1 => ?_) (fun c1 => ?_)
  · rw [if_pos c1] at h
    refine aw_seq [(.iload 4, 2, ax0)] (pc' := 46) (L' := [some (aR 8 0 t), some (aI v1), some (aI v2), some (aI v3), some (aI s0)]) (stk' := [aI s0]) (σ' := σ) (g := []) (by decide +kernel) rfl rfl ?_
    refine aw_if_eq (off := 7) (tgt := 53) (by decide +kernel) (by decide) (fun c1 => ?_) (fun c1 => ?_)
    · rw [if_pos c1] at h
      refine aw_seq [(.iconst 1, 1, (axI 1))] (pc' := 54) (L' := [some (aR 8 0 t), some (aI v1), some (aI v2), some (aI v3), some (aI s0)]) (stk' := [aI 1]) (σ' := σ) (g := []) (by decide +kernel) rfl rfl ?_
      refine aw_forget (L' := [none, none, none, none, none]) (lsub_n (lsub_n (lsub_n (lsub_n (lsub_n (lsub_0)))))) ?_
      exact ok_X1_without_54 1 σ _ h
    · rw [if_neg c1] at h
      refine aw_seq [(.iconst 3, 1, (axI 3))] (pc' := 50) (L' := [some (aR 8 0 t), some (aI v1), some (aI v2), some (aI v3), some (aI s0)]) (stk' := [aI 3]) (σ' := σ) (g := []) (by decide +kernel) rfl rfl ?_
      refine aw_goto (off := 4) (tgt := 54) (by decide +kernel) (by decide) ?_
      refine aw_forget (L' := [none, none, none, none, none]) (lsub_n (lsub_n (lsub_n (lsub_n (lsub_n (lsub_0)))))) ?_
      exact ok_X1_without_54 3 σ _ h
  rw [if_neg c1] at h
  refine awsw_cons (fun c1 => ?_) (fun c1 => ?_)
  · rw [if_pos c1] at h
    refine aw_seq [(.iload 4, 2, ax0)] (pc' := 57) (L' := [some (aR 8 0 t), some (aI v1), some (aI v2), some (aI v3), some (aI s0)]) (stk' := [aI s0]) (σ' := σ) (g := []) (by decide +kernel) rfl rfl ?_
    refine aw_if_eq (off := 16) (tgt := 73) (by decide +kernel) (by decide) (fun c1 => ?_) (fun c1 => ?_)
    · rw [if_pos c1] at h
      obtain ⟨hg, h⟩ := grd_some h
      refine aw_seq [(.aload_n 0, 1, ax0), (.getfield 96, 3, (axF 8 1 (2, 1, 13, some 8))), (.iload_n 2, 1, ax0), (.iaload, 1, ax0), (.iconst 4, 1, (axI 4)), (.idiv, 1, ax0)] (pc' := 81) (L' := [some (aR 8 0 t), some (aI v1), some (aI v2), some (aI v3), some (aI s0)]) (stk' := [aI ((σ.1 (t + 1) (ix v2)) / 4)]) (σ' := σ) (g := [inb v2 8, (!decide ((4 : Int32) = 0))]) (by decide +kernel) rfl hg ?_
      refine aw_forget (L' := [none, none, none, none, none]) (lsub_n (lsub_n (lsub_n (lsub_n (lsub_n (lsub_0)))))) ?_
      exact ok_X1_without_81 ((σ.1 (t + 1) (ix v2)) / 4) σ _ h
    · rw [if_neg c1] at h
      obtain ⟨hg, h⟩ := grd_some h
      refine aw_seq [(.aload_n 0, 1, ax0), (.getfield 96, 3, (axF 8 1 (2, 1, 13, some 8))), (.iload_n 2, 1, ax0), (.iaload, 1, ax0), (.iconst 2, 1, (axI 2)), (.idiv, 1, ax0), (.iload_n 3, 1, ax0), (.iadd, 1, ax0)] (pc' := 70) (L' := [some (aR 8 0 t), some (aI v1), some (aI v2), some (aI v3), some (aI s0)]) (stk' := [aI (((σ.1 (t + 1) (ix v2)) / 2) + v3)]) (σ' := σ) (g := [inb v2 8, (!decide ((2 : Int32) = 0))]) (by decide +kernel) rfl hg ?_
      refine aw_goto (off := 11) (tgt := 81) (by decide +kernel) (by decide) ?_
      refine aw_forget (L' := [none, none, none, none, none]) (lsub_n (lsub_n (lsub_n (lsub_n (lsub_n (lsub_0)))))) ?_
      exact ok_X1_without_81 (((σ.1 (t + 1) (ix v2)) / 2) + v3) σ _ h
  rw [if_neg c1] at h
  refine awsw_nil ?_
  refine aw_seq [(.bipush 10, 2, (axI 10))] (pc' := 84) (L' := [some (aR 8 0 t), some (aI v1), some (aI v2), some (aI v3), some (aI s0)]) (stk' := [aI 10]) (σ' := σ) (g := []) (by decide +kernel) rfl rfl ?_
  cases h
  exact aw_iret rfl (by decide +kernel)
def f_X1_without (t : Nat) (v1 : Int32) (v2 : Int32) (v3 : Int32) (σ : Sg) : Option (Int32 × Sg) :=
  grd (inb v2 8 && true) <|
  if (σ.1 (t + 3) (ix v2)) = 2 then (
    f_X1_without_15 t v1 v2 v3 1 σ
  ) else (
    f_X1_without_15 t v1 v2 v3 0 σ
  )
set_option maxRecDepth 100000 in
set_option maxHeartbeats 4000000 in
theorem ok_X1_without {κ : Kd} {t : Nat} {v1 : Int32} {v2 : Int32} {v3 : Int32} {σ : Sg} {q : (Int32 × Sg)} (h : f_X1_without t v1 v2 v3 σ = some q) : AMet κ pX1_without 1 [aR 8 0 t, aI v1, aI v2, aI v3] σ (some (aI q.1), q.2) := by
  unfold f_X1_without at h
  refine amet_of okp_X1_without [(false, aR 8 0 t), (false, aI v1), (false, aI v2), (false, aI v3)] (List.forall_mem_cons.mpr ⟨rfl, List.forall_mem_cons.mpr ⟨rfl, List.forall_mem_cons.mpr ⟨rfl, List.forall_mem_cons.mpr ⟨rfl, (fun _ hn => absurd hn List.not_mem_nil)⟩⟩⟩⟩) 1 rfl ?_
  show AW κ pX1_without 1 (some (aI q.1), q.2) 0 [some (aR 8 0 t), some (aI v1), some (aI v2), some (aI v3), none] [] σ
  obtain ⟨hg, h⟩ := grd_some h
  refine aw_seq [(.aload_n 0, 1, ax0), (.getfield 70, 3, (axF 8 3 (2, 3, 13, some 8))), (.iload_n 2, 1, ax0), (.iaload, 1, ax0), (.iconst 2, 1, (axI 2))] (pc' := 7) (L' := [some (aR 8 0 t), some (aI v1), some (aI v2), some (aI v3), none]) (stk' := [aI 2, aI (σ.1 (t + 3) (ix v2))]) (σ' := σ) (g := [inb v2 8]) (by decide +kernel) rfl hg ?_
  refine aw_icmp_ne (off := 7) (tgt := 14) (by decide +kernel) (by decide) (fun c1 => ?_) (fun c1 => ?_)
  · rw [if_neg c1] at h
    refine aw_seq [(.iconst 0, 1, (axI 0))] (pc' := 15) (L' := [some (aR 8 0 t), some (aI v1), some (aI v2), some (aI v3), none]) (stk' := [aI 0]) (σ' := σ) (g := []) (by decide +kernel) rfl rfl ?_
    refine aw_forget (L' := [some (aR 8 0 t), some (aI v1), some (aI v2), some (aI v3), none]) (lsub_s (lsub_s (lsub_s (lsub_s (lsub_n (lsub_0)))))) ?_
    exact ok_X1_without_15 v1 v2 v3 0 σ _ h
  · rw [if_pos c1] at h
    refine aw_seq [(.iconst 1, 1, (axI 1))] (pc' := 11) (L' := [some (aR 8 0 t), some (aI v1), some (aI v2), some (aI v3), none]) (stk' := [aI 1]) (σ' := σ) (g := []) (by decide +kernel) rfl rfl ?_
    refine aw_goto (off := 4) (tgt := 15) (by decide +kernel) (by decide) ?_
    refine aw_forget (L' := [some (aR 8 0 t), some (aI v1), some (aI v2), some (aI v3), none]) (lsub_s (lsub_s (lsub_s (lsub_s (lsub_n (lsub_0)))))) ?_
    exact ok_X1_without_15 v1 v2 v3 1 σ _ h
def f_X1_rate_60 (κ : Kd) (t : Nat)  (v6 : Int32) (s0 : Int32) (σ : Sg) : Option (Int32 × Sg) :=
  some ((imax 0 (imin v6 s0)), σ)
set_option maxRecDepth 100000 in
set_option maxHeartbeats 4000000 in
theorem ok_X1_rate_60 {κ : Kd} {t : Nat}   : ∀ (v6 : Int32) (s0 : Int32) (σ : Sg) (q : (Int32 × Sg)), f_X1_rate_60 κ t v6 s0 σ = some q → AW κ pX1_rate 4 (some (aI q.1), q.2) 60 [none, none, none, none, none, none, some (aI v6), none] [aI s0] σ := by
  intro v6 s0 σ q h
  unfold f_X1_rate_60 at h
  refine aw_seq [(.istore 7, 2, ax0), (.iconst 0, 1, (axI 0)), (.iload 6, 2, ax0), (.iload 7, 2, ax0)] (pc' := 67) (L' := [none, none, none, none, none, none, some (aI v6), some (aI s0)]) (stk' := [aI s0, aI v6, aI 0]) (σ' := σ) (g := []) (by decide +kernel) rfl rfl ?_
  refine aw_imin (idx := 80) (by decide) (Nat.le_of_ble_eq_true rfl) jw_imin ml_RX1_80 (by decide +kernel) ?_
  refine aw_imax (idx := 65) (by decide) (Nat.le_of_ble_eq_true rfl) jw_imax ml_RX1_65 (by decide +kernel) ?_
  cases h
  exact aw_iret rfl (by decide +kernel)
def f_X1_rate_37 (κ : Kd) (t : Nat)  (v3 : Int32) (v4 : Int32) (v5 : Int32) (v6 : Int32) (σ : Sg) : Option (Int32 × Sg) :=
  bnd (f_X1_without t v3 v4 v5 σ) fun r3 σ2 =>
  f_X1_rate_60 κ t v6 r3 σ2
set_option maxRecDepth 100000 in
set_option maxHeartbeats 4000000 in
theorem ok_X1_rate_37 {κ : Kd} {t : Nat}   : ∀ (v3 : Int32) (v4 : Int32) (v5 : Int32) (v6 : Int32) (σ : Sg) (q : (Int32 × Sg)), f_X1_rate_37 κ t v3 v4 v5 v6 σ = some q → AW κ pX1_rate 4 (some (aI q.1), q.2) 37 [none, some (aR 8 0 t), none, some (aI v3), some (aI v4), some (aI v5), some (aI v6), none] [] σ := by
  intro v3 v4 v5 v6 σ q h
  unfold f_X1_rate_37 at h
  refine aw_seq [(.aload_n 1, 1, ax0), (.iload_n 3, 1, ax0), (.iload 4, 2, ax0), (.iload 5, 2, ax0)] (pc' := 43) (L' := [none, some (aR 8 0 t), none, some (aI v3), some (aI v4), some (aI v5), some (aI v6), none]) (stk' := [aI v5, aI v4, aI v3, aR 8 0 t]) (σ' := σ) (g := []) (by decide +kernel) rfl rfl ?_
  obtain ⟨r3, σ2, h1, h⟩ := bnd_some h
  refine aw_cS (P' := pX1_without) (idx := 89) (d' := 1) [aR 8 0 t, aI v3, aI v4, aI v5] [] (ov := (some (aI r3))) (stk2 := [aI r3]) okp_X1_without (by decide +kernel) ml_RX1_89 tok_X1_without nar_X1_without (by decide) rfl (Nat.le_of_ble_eq_true rfl) (ok_X1_without h1) rfl ?_
  refine aw_goto (off := 14) (tgt := 60) (by decide +kernel) (by decide) ?_
  refine aw_forget (L' := [none, none, none, none, none, none, some (aI v6), none]) (lsub_n (lsub_n (lsub_n (lsub_n (lsub_n (lsub_n (lsub_s (lsub_n (lsub_0))))))))) ?_
  exact ok_X1_rate_60 v6 r3 σ2 _ h
def f_X1_rate_22 (κ : Kd) (t : Nat)  (v2 : Option Nat) (v3 : Int32) (v4 : Int32) (v5 : Int32) (s0 : Int32) (σ : Sg) : Option (Int32 × Sg) :=
  tsel v2 (
    f_X1_rate_37 κ t v3 v4 v5 s0 σ
  ) (fun k4 =>
    bnd (f_X6_firstSign κ k4 v3 σ) fun r7 σ6 =>
    if r7 = (-1) then (
      f_X1_rate_37 κ t v3 v4 v5 s0 σ6
    ) else (
      bnd (f_X1_value κ t k4 v3 v4 v5 σ6) fun r10 σ9 =>
      f_X1_rate_60 κ t s0 r10 σ9
    )
  )
set_option maxRecDepth 100000 in
set_option maxHeartbeats 4000000 in
theorem ok_X1_rate_22 {κ : Kd} {t : Nat}   : ∀ (v2 : Option Nat) (v3 : Int32) (v4 : Int32) (v5 : Int32) (s0 : Int32) (σ : Sg) (q : (Int32 × Sg)), f_X1_rate_22 κ t v2 v3 v4 v5 s0 σ = some q → AW κ pX1_rate 4 (some (aI q.1), q.2) 22 [some (aR 1 0 47), some (aR 8 0 t), some (aT v2), some (aI v3), some (aI v4), some (aI v5), none, none] [aI s0] σ := by
  intro v2 v3 v4 v5 s0 σ q h
  unfold f_X1_rate_22 at h
  refine aw_seq [(.istore 6, 2, ax0), (.aload_n 2, 1, ax0)] (pc' := 25) (L' := [some (aR 1 0 47), some (aR 8 0 t), some (aT v2), some (aI v3), some (aI v4), some (aI v5), some (aI s0), none]) (stk' := [aT v2]) (σ' := σ) (g := []) (by decide +kernel) rfl rfl ?_
  rcases tsel_some h with ⟨e1, h2⟩ | ⟨k4, e1, h2⟩
  · replace h := h2
    clear h2; subst e1
    refine aw_ifnullN (off := 12) (tgt := 37) (by decide +kernel) (by decide) ?_
    refine aw_forget (L' := [none, some (aR 8 0 t), none, some (aI v3), some (aI v4), some (aI v5), some (aI s0), none]) (lsub_n (lsub_s (lsub_n (lsub_s (lsub_s (lsub_s (lsub_s (lsub_n (lsub_0))))))))) ?_
    exact ok_X1_rate_37 v3 v4 v5 s0 σ _ h
  · replace h := h2
    clear h2; subst e1
    refine aw_ifnullR (q := (6, 0, k4)) (off := 12) (tgt := 37) (by decide +kernel) (by decide) ?_
    refine aw_seq [(.aload_n 2, 1, ax0), (.iload_n 3, 1, ax0)] (pc' := 30) (L' := [some (aR 1 0 47), some (aR 8 0 t), some (aR 6 0 k4), some (aI v3), some (aI v4), some (aI v5), some (aI s0), none]) (stk' := [aI v3, aR 6 0 k4]) (σ' := σ) (g := []) (by decide +kernel) rfl rfl ?_
    obtain ⟨r7, σ6, h5, h⟩ := bnd_some h
    refine aw_cV (P' := pX6_firstSign) (idx := 83) (d' := 1) (c := 6) (n := 0) (k := k4) [aI v3] [] (ov := (some (aI r7))) (stk2 := [aI r7]) okp_X6_firstSign (by decide +kernel) ml_RX1_83 vok_X6_firstSign (by decide) rfl nar_X6_firstSign (by decide) rfl (Nat.le_of_ble_eq_true rfl) (ok_X6_firstSign h5) rfl ?_
    refine aw_seq [(.iconst (-1), 1, (axI (-1)))] (pc' := 34) (L' := [some (aR 1 0 47), some (aR 8 0 t), some (aR 6 0 k4), some (aI v3), some (aI v4), some (aI v5), some (aI s0), none]) (stk' := [aI (-1), aI r7]) (σ' := σ6) (g := []) (by decide +kernel) rfl rfl ?_
    refine aw_icmp_ne (off := 15) (tgt := 49) (by decide +kernel) (by decide) (fun c1 => ?_) (fun c1 => ?_)
    · rw [if_neg c1] at h
      refine aw_seq [(.aload_n 0, 1, ax0), (.aload_n 1, 1, ax0), (.aload_n 2, 1, ax0), (.iload_n 3, 1, ax0), (.iload 4, 2, ax0), (.iload 5, 2, ax0)] (pc' := 57) (L' := [some (aR 1 0 47), some (aR 8 0 t), some (aR 6 0 k4), some (aI v3), some (aI v4), some (aI v5), some (aI s0), none]) (stk' := [aI v5, aI v4, aI v3, aR 6 0 k4, aR 8 0 t, aR 1 0 47]) (σ' := σ6) (g := []) (by decide +kernel) rfl rfl ?_
      obtain ⟨r10, σ9, h8, h⟩ := bnd_some h
      refine aw_cV (P' := pX1_value) (idx := 93) (d' := 3) (c := 1) (n := 0) (k := 47) [aR 8 0 t, aR 6 0 k4, aI v3, aI v4, aI v5] [] (ov := (some (aI r10))) (stk2 := [aI r10]) okp_X1_value (by decide +kernel) ml_RX1_93 vok_X1_value (by decide) rfl nar_X1_value (by decide) rfl (Nat.le_of_ble_eq_true rfl) (ok_X1_value h8) rfl ?_
      refine aw_forget (L' := [none, none, none, none, none, none, some (aI s0), none]) (lsub_n (lsub_n (lsub_n (lsub_n (lsub_n (lsub_n (lsub_s (lsub_n (lsub_0))))))))) ?_
      exact ok_X1_rate_60 s0 r10 σ9 _ h
    · rw [if_pos c1] at h
      refine aw_forget (L' := [none, some (aR 8 0 t), none, some (aI v3), some (aI v4), some (aI v5), some (aI s0), none]) (lsub_n (lsub_s (lsub_n (lsub_s (lsub_s (lsub_s (lsub_s (lsub_n (lsub_0))))))))) ?_
      exact ok_X1_rate_37 v3 v4 v5 s0 σ6 _ h
def f_X1_rate (κ : Kd) (t : Nat) (r : Option Nat) (v3 : Int32) (v4 : Int32) (v5 : Int32) (σ : Sg) : Option (Int32 × Sg) :=
  if v3 = 0 then (
    f_X1_rate_22 κ t r v3 v4 v5 9 σ
  ) else (
    if v3 = 1 then (
      f_X1_rate_22 κ t r v3 v4 v5 10 σ
    ) else (
      f_X1_rate_22 κ t r v3 v4 v5 9999 σ
    )
  )
set_option maxRecDepth 100000 in
set_option maxHeartbeats 4000000 in
theorem ok_X1_rate {κ : Kd} {t : Nat} {r : Option Nat} {v3 : Int32} {v4 : Int32} {v5 : Int32} {σ : Sg} {q : (Int32 × Sg)} (h : f_X1_rate κ t r v3 v4 v5 σ = some q) : AMet κ pX1_rate 4 [aR 1 0 47, aR 8 0 t, aT r, aI v3, aI v4, aI v5] σ (some (aI q.1), q.2) := by
  unfold f_X1_rate at h
  refine amet_of okp_X1_rate [(false, aR 1 0 47), (false, aR 8 0 t), (false, aT r), (false, aI v3), (false, aI v4), (false, aI v5)] (List.forall_mem_cons.mpr ⟨rfl, List.forall_mem_cons.mpr ⟨rfl, List.forall_mem_cons.mpr ⟨isL_aT _, List.forall_mem_cons.mpr ⟨rfl, List.forall_mem_cons.mpr ⟨rfl, List.forall_mem_cons.mpr ⟨rfl, (fun _ hn => absurd hn List.not_mem_nil)⟩⟩⟩⟩⟩⟩) 2 rfl ?_
  show AW κ pX1_rate 4 (some (aI q.1), q.2) 0 [some (aR 1 0 47), some (aR 8 0 t), some (aT r), some (aI v3), some (aI v4), some (aI v5), none, none] [] σ
  refine aw_seq [(.iload_n 3, 1, ax0)] (pc' := 1) (L' := [some (aR 1 0 47), some (aR 8 0 t), some (aT r), some (aI v3), some (aI v4), some (aI v5), none, none]) (stk' := [aI v3]) (σ' := σ) (g := []) (by decide +kernel) rfl rfl ?_
  refine aw_if_ne (off := 8) (tgt := 9) (by decide +kernel) (by decide) (fun c1 => ?_) (fun c1 => ?_)
  · rw [if_neg c1] at h
    refine aw_seq [(.iload_n 3, 1, ax0), (.iconst 1, 1, (axI 1))] (pc' := 11) (L' := [some (aR 1 0 47), some (aR 8 0 t), some (aT r), some (aI v3), some (aI v4), some (aI v5), none, none]) (stk' := [aI 1, aI v3]) (σ' := σ) (g := []) (by decide +kernel) rfl rfl ?_
    refine aw_icmp_ne (off := 8) (tgt := 19) (by decide +kernel) (by decide) (fun c1 => ?_) (fun c1 => ?_)
    · rw [if_neg c1] at h
      refine aw_seq [(.sipush 9999, 3, (axI 9999))] (pc' := 22) (L' := [some (aR 1 0 47), some (aR 8 0 t), some (aT r), some (aI v3), some (aI v4), some (aI v5), none, none]) (stk' := [aI 9999]) (σ' := σ) (g := []) (by decide +kernel) rfl rfl ?_
      refine aw_forget (L' := [some (aR 1 0 47), some (aR 8 0 t), some (aT r), some (aI v3), some (aI v4), some (aI v5), none, none]) (lsub_s (lsub_s (lsub_s (lsub_s (lsub_s (lsub_s (lsub_n (lsub_n (lsub_0))))))))) ?_
      exact ok_X1_rate_22 r v3 v4 v5 9999 σ _ h
    · rw [if_pos c1] at h
      refine aw_seq [(.bipush 10, 2, (axI 10))] (pc' := 16) (L' := [some (aR 1 0 47), some (aR 8 0 t), some (aT r), some (aI v3), some (aI v4), some (aI v5), none, none]) (stk' := [aI 10]) (σ' := σ) (g := []) (by decide +kernel) rfl rfl ?_
      refine aw_goto (off := 6) (tgt := 22) (by decide +kernel) (by decide) ?_
      refine aw_forget (L' := [some (aR 1 0 47), some (aR 8 0 t), some (aT r), some (aI v3), some (aI v4), some (aI v5), none, none]) (lsub_s (lsub_s (lsub_s (lsub_s (lsub_s (lsub_s (lsub_n (lsub_n (lsub_0))))))))) ?_
      exact ok_X1_rate_22 r v3 v4 v5 10 σ _ h
  · rw [if_pos c1] at h
    refine aw_seq [(.bipush 9, 2, (axI 9))] (pc' := 6) (L' := [some (aR 1 0 47), some (aR 8 0 t), some (aT r), some (aI v3), some (aI v4), some (aI v5), none, none]) (stk' := [aI 9]) (σ' := σ) (g := []) (by decide +kernel) rfl rfl ?_
    refine aw_goto (off := 16) (tgt := 22) (by decide +kernel) (by decide) ?_
    refine aw_forget (L' := [some (aR 1 0 47), some (aR 8 0 t), some (aT r), some (aI v3), some (aI v4), some (aI v5), none, none]) (lsub_s (lsub_s (lsub_s (lsub_s (lsub_s (lsub_s (lsub_n (lsub_n (lsub_0))))))))) ?_
    exact ok_X1_rate_22 r v3 v4 v5 9 σ _ h
def f_J6_bitCount_0f7a4 (v0 : Int32) (σ : Sg) : Option (Int32 × Sg) :=
  some (((((((((v0 - ((ushr v0 1) &&& 1431655765)) &&& 858993459) + ((ushr (v0 - ((ushr v0 1) &&& 1431655765)) 2) &&& 858993459)) + (ushr (((v0 - ((ushr v0 1) &&& 1431655765)) &&& 858993459) + ((ushr (v0 - ((ushr v0 1) &&& 1431655765)) 2) &&& 858993459)) 4)) &&& 252645135) + (ushr (((((v0 - ((ushr v0 1) &&& 1431655765)) &&& 858993459) + ((ushr (v0 - ((ushr v0 1) &&& 1431655765)) 2) &&& 858993459)) + (ushr (((v0 - ((ushr v0 1) &&& 1431655765)) &&& 858993459) + ((ushr (v0 - ((ushr v0 1) &&& 1431655765)) 2) &&& 858993459)) 4)) &&& 252645135) 8)) + (ushr ((((((v0 - ((ushr v0 1) &&& 1431655765)) &&& 858993459) + ((ushr (v0 - ((ushr v0 1) &&& 1431655765)) 2) &&& 858993459)) + (ushr (((v0 - ((ushr v0 1) &&& 1431655765)) &&& 858993459) + ((ushr (v0 - ((ushr v0 1) &&& 1431655765)) 2) &&& 858993459)) 4)) &&& 252645135) + (ushr (((((v0 - ((ushr v0 1) &&& 1431655765)) &&& 858993459) + ((ushr (v0 - ((ushr v0 1) &&& 1431655765)) 2) &&& 858993459)) + (ushr (((v0 - ((ushr v0 1) &&& 1431655765)) &&& 858993459) + ((ushr (v0 - ((ushr v0 1) &&& 1431655765)) 2) &&& 858993459)) 4)) &&& 252645135) 8)) 16)) &&& 63), σ)
set_option maxRecDepth 100000 in
set_option maxHeartbeats 4000000 in
theorem ok_J6_bitCount_0f7a4 {κ : Kd} {v0 : Int32} {σ : Sg} {q : (Int32 × Sg)} (h : f_J6_bitCount_0f7a4 v0 σ = some q) : AMet κ pJ6_bitCount_0f7a4 1 [aI v0] σ (some (aI q.1), q.2) := by
  unfold f_J6_bitCount_0f7a4 at h
  refine amet_of okp_J6_bitCount_0f7a4 [(false, aI v0)] (List.forall_mem_cons.mpr ⟨rfl, (fun _ hn => absurd hn List.not_mem_nil)⟩) 0 rfl ?_
  show AW κ pJ6_bitCount_0f7a4 1 (some (aI q.1), q.2) 0 [some (aI v0)] [] σ
  refine aw_seq [(.iload_n 0, 1, ax0), (.iload_n 0, 1, ax0), (.iconst 1, 1, (axI 1)), (.iushr, 1, ax0), (.ldc_w 265, 3, (axI 1431655765)), (.iand, 1, ax0), (.isub, 1, ax0), (.istore_n 0, 1, ax0), (.iload_n 0, 1, ax0), (.ldc_w 266, 3, (axI 858993459)), (.iand, 1, ax0), (.iload_n 0, 1, ax0), (.iconst 2, 1, (axI 2)), (.iushr, 1, ax0), (.ldc_w 266, 3, (axI 858993459)), (.iand, 1, ax0), (.iadd, 1, ax0), (.istore_n 0, 1, ax0), (.iload_n 0, 1, ax0), (.iload_n 0, 1, ax0), (.iconst 4, 1, (axI 4)), (.iushr, 1, ax0), (.iadd, 1, ax0), (.ldc_w 267, 3, (axI 252645135)), (.iand, 1, ax0), (.istore_n 0, 1, ax0), (.iload_n 0, 1, ax0), (.iload_n 0, 1, ax0), (.bipush 8, 2, (axI 8)), (.iushr, 1, ax0), (.iadd, 1, ax0), (.istore_n 0, 1, ax0), (.iload_n 0, 1, ax0), (.iload_n 0, 1, ax0), (.bipush 16, 2, (axI 16)), (.iushr, 1, ax0), (.iadd, 1, ax0), (.istore_n 0, 1, ax0), (.iload_n 0, 1, ax0), (.bipush 63, 2, (axI 63)), (.iand, 1, ax0)] (pc' := 52) (L' := [some (aI (((((((v0 - ((ushr v0 1) &&& 1431655765)) &&& 858993459) + ((ushr (v0 - ((ushr v0 1) &&& 1431655765)) 2) &&& 858993459)) + (ushr (((v0 - ((ushr v0 1) &&& 1431655765)) &&& 858993459) + ((ushr (v0 - ((ushr v0 1) &&& 1431655765)) 2) &&& 858993459)) 4)) &&& 252645135) + (ushr (((((v0 - ((ushr v0 1) &&& 1431655765)) &&& 858993459) + ((ushr (v0 - ((ushr v0 1) &&& 1431655765)) 2) &&& 858993459)) + (ushr (((v0 - ((ushr v0 1) &&& 1431655765)) &&& 858993459) + ((ushr (v0 - ((ushr v0 1) &&& 1431655765)) 2) &&& 858993459)) 4)) &&& 252645135) 8)) + (ushr ((((((v0 - ((ushr v0 1) &&& 1431655765)) &&& 858993459) + ((ushr (v0 - ((ushr v0 1) &&& 1431655765)) 2) &&& 858993459)) + (ushr (((v0 - ((ushr v0 1) &&& 1431655765)) &&& 858993459) + ((ushr (v0 - ((ushr v0 1) &&& 1431655765)) 2) &&& 858993459)) 4)) &&& 252645135) + (ushr (((((v0 - ((ushr v0 1) &&& 1431655765)) &&& 858993459) + ((ushr (v0 - ((ushr v0 1) &&& 1431655765)) 2) &&& 858993459)) + (ushr (((v0 - ((ushr v0 1) &&& 1431655765)) &&& 858993459) + ((ushr (v0 - ((ushr v0 1) &&& 1431655765)) 2) &&& 858993459)) 4)) &&& 252645135) 8)) 16)))]) (stk' := [aI ((((((((v0 - ((ushr v0 1) &&& 1431655765)) &&& 858993459) + ((ushr (v0 - ((ushr v0 1) &&& 1431655765)) 2) &&& 858993459)) + (ushr (((v0 - ((ushr v0 1) &&& 1431655765)) &&& 858993459) + ((ushr (v0 - ((ushr v0 1) &&& 1431655765)) 2) &&& 858993459)) 4)) &&& 252645135) + (ushr (((((v0 - ((ushr v0 1) &&& 1431655765)) &&& 858993459) + ((ushr (v0 - ((ushr v0 1) &&& 1431655765)) 2) &&& 858993459)) + (ushr (((v0 - ((ushr v0 1) &&& 1431655765)) &&& 858993459) + ((ushr (v0 - ((ushr v0 1) &&& 1431655765)) 2) &&& 858993459)) 4)) &&& 252645135) 8)) + (ushr ((((((v0 - ((ushr v0 1) &&& 1431655765)) &&& 858993459) + ((ushr (v0 - ((ushr v0 1) &&& 1431655765)) 2) &&& 858993459)) + (ushr (((v0 - ((ushr v0 1) &&& 1431655765)) &&& 858993459) + ((ushr (v0 - ((ushr v0 1) &&& 1431655765)) 2) &&& 858993459)) 4)) &&& 252645135) + (ushr (((((v0 - ((ushr v0 1) &&& 1431655765)) &&& 858993459) + ((ushr (v0 - ((ushr v0 1) &&& 1431655765)) 2) &&& 858993459)) + (ushr (((v0 - ((ushr v0 1) &&& 1431655765)) &&& 858993459) + ((ushr (v0 - ((ushr v0 1) &&& 1431655765)) 2) &&& 858993459)) 4)) &&& 252645135) 8)) 16)) &&& 63)]) (σ' := σ) (g := []) (by decide +kernel) rfl rfl ?_
  cases h
  exact aw_iret rfl (by decide +kernel)
def f_X5_near (s : Nat) (v1 : Int32) (v2 : Int32) (σ : Sg) : Option (Int32 × Sg) :=
  grd (inb v1 8 && true) <|
  bnd (f_J6_bitCount_0f7a4 ((σ.1 (s + 2) (ix v1)) &&& v2) σ) fun r3 σ2 =>
  some (r3, σ2)
set_option maxRecDepth 100000 in
set_option maxHeartbeats 4000000 in
theorem ok_X5_near {κ : Kd} {s : Nat} {v1 : Int32} {v2 : Int32} {σ : Sg} {q : (Int32 × Sg)} (h : f_X5_near s v1 v2 σ = some q) : AMet κ pX5_near 2 [aR 5 0 s, aI v1, aI v2] σ (some (aI q.1), q.2) := by
  unfold f_X5_near at h
  refine amet_of okp_X5_near [(false, aR 5 0 s), (false, aI v1), (false, aI v2)] (List.forall_mem_cons.mpr ⟨rfl, List.forall_mem_cons.mpr ⟨rfl, List.forall_mem_cons.mpr ⟨rfl, (fun _ hn => absurd hn List.not_mem_nil)⟩⟩⟩) 0 rfl ?_
  show AW κ pX5_near 2 (some (aI q.1), q.2) 0 [some (aR 5 0 s), some (aI v1), some (aI v2)] [] σ
  obtain ⟨hg, h⟩ := grd_some h
  refine aw_seq [(.aload_n 0, 1, ax0), (.getfield 15, 3, (axF 5 1 (2, 2, 13, some 8))), (.iload_n 1, 1, ax0), (.iaload, 1, ax0), (.iload_n 2, 1, ax0), (.iand, 1, ax0)] (pc' := 8) (L' := [some (aR 5 0 s), some (aI v1), some (aI v2)]) (stk' := [aI ((σ.1 (s + 2) (ix v1)) &&& v2)]) (σ' := σ) (g := [inb v1 8]) (by decide +kernel) rfl hg ?_
  obtain ⟨r3, σ2, h1, h⟩ := bnd_some h
  refine aw_cS (P' := pJ6_bitCount_0f7a4) (idx := 24) (d' := 1) [aI ((σ.1 (s + 2) (ix v1)) &&& v2)] [] (ov := (some (aI r3))) (stk2 := [aI r3]) okp_J6_bitCount_0f7a4 (by decide +kernel) ml_RX5_24 tok_J6_bitCount_0f7a4 nar_J6_bitCount_0f7a4 (by decide) rfl (Nat.le_of_ble_eq_true rfl) (ok_J6_bitCount_0f7a4 h1) rfl ?_
  cases h
  exact aw_iret rfl (by decide +kernel)
def f_X8_housesBy_43 (t : Nat) (rec_5 : Int32 → Int32 → Int32 → Int32 → Sg → Option (Int32 × Sg)) (v1 : Int32) (v2 : Int32) (v3 : Int32) (v4 : Int32) (σ : Sg) : Option (Int32 × Sg) :=
  rec_5 v1 v2 v3 (v4 + 1) σ
set_option maxRecDepth 100000 in
set_option maxHeartbeats 4000000 in
theorem ok_X8_housesBy_43 {κ : Kd} {t : Nat}  {rec_5 : Int32 → Int32 → Int32 → Int32 → Sg → Option (Int32 × Sg)} (hrec_5 : ∀ (v1 : Int32) (v2 : Int32) (v3 : Int32) (v4 : Int32) (σ : Sg) (q : (Int32 × Sg)), rec_5 v1 v2 v3 v4 σ = some q → AW κ pX8_housesBy 1 (some (aI q.1), q.2) 5 [some (aR 8 0 t), some (aI v1), some (aI v2), some (aI v3), some (aI v4)] [] σ) : ∀ (v1 : Int32) (v2 : Int32) (v3 : Int32) (v4 : Int32) (σ : Sg) (q : (Int32 × Sg)), f_X8_housesBy_43 t rec_5 v1 v2 v3 v4 σ = some q → AW κ pX8_housesBy 1 (some (aI q.1), q.2) 43 [some (aR 8 0 t), some (aI v1), some (aI v2), some (aI v3), some (aI v4)] [] σ := by
  intro v1 v2 v3 v4 σ q h
  unfold f_X8_housesBy_43 at h
  refine aw_seq [(.iinc 4 1, 3, (axI 1))] (pc' := 46) (L' := [some (aR 8 0 t), some (aI v1), some (aI v2), some (aI v3), some (aI (v4 + 1))]) (stk' := []) (σ' := σ) (g := []) (by decide +kernel) rfl rfl ?_
  refine aw_goto (off := (-41)) (tgt := 5) (by decide +kernel) (by decide) ?_
  refine aw_forget (L' := [some (aR 8 0 t), some (aI v1), some (aI v2), some (aI v3), some (aI (v4 + 1))]) (lsub_s (lsub_s (lsub_s (lsub_s (lsub_s (lsub_0)))))) ?_
  exact hrec_5 v1 v2 v3 (v4 + 1) σ _ h
def f_X8_housesBy_5 (t : Nat)  : Nat → Int32 → Int32 → Int32 → Int32 → Sg → Option (Int32 × Sg)
  | 0, _, _, _, _, _ => none
  | fu + 1, v1, v2, v3, v4, σ =>
    if (σ.1 t 0) ≤ v4 then (
      some (v3, σ)
    ) else (
      grd (inb v4 8 && true) <|
      if (σ.1 (t + 3) (ix v4)) < v1 then (
        f_X8_housesBy_43 t (f_X8_housesBy_5 t fu) v1 v2 v3 v4 σ
      ) else (
        grd (inb v4 8 && true) <|
        if v2 < (σ.1 (t + 3) (ix v4)) then (
          f_X8_housesBy_43 t (f_X8_housesBy_5 t fu) v1 v2 v3 v4 σ
        ) else (
          f_X8_housesBy_43 t (f_X8_housesBy_5 t fu) v1 v2 (v3 ||| (shl 1 v4)) v4 σ
        )
      )
    )
set_option maxRecDepth 100000 in
set_option maxHeartbeats 4000000 in
theorem ok_X8_housesBy_5 {κ : Kd} {t : Nat}   : ∀ (fu : Nat) (v1 : Int32) (v2 : Int32) (v3 : Int32) (v4 : Int32) (σ : Sg) (q : (Int32 × Sg)), f_X8_housesBy_5 t fu v1 v2 v3 v4 σ = some q → AW κ pX8_housesBy 1 (some (aI q.1), q.2) 5 [some (aR 8 0 t), some (aI v1), some (aI v2), some (aI v3), some (aI v4)] [] σ := by
  intro fu
  induction fu with
  | zero =>
    intro v1 v2 v3 v4 σ q h
    unfold f_X8_housesBy_5 at h
    cases h
  | succ fu ih =>
    intro v1 v2 v3 v4 σ q h
    unfold f_X8_housesBy_5 at h
    refine aw_seq [(.iload 4, 2, ax0), (.aload_n 0, 1, ax0), (.getfield 31, 3, (axF 8 0 (0, 0, 0, none)))] (pc' := 11) (L' := [some (aR 8 0 t), some (aI v1), some (aI v2), some (aI v3), some (aI v4)]) (stk' := [aI (σ.1 t 0), aI v4]) (σ' := σ) (g := []) (by decide +kernel) rfl rfl ?_
    refine aw_icmp_ge (off := 38) (tgt := 49) (by decide +kernel) (by decide) (fun c1 => ?_) (fun c1 => ?_)
    · rw [if_pos c1] at h
      refine aw_seq [(.iload_n 3, 1, ax0)] (pc' := 50) (L' := [some (aR 8 0 t), some (aI v1), some (aI v2), some (aI v3), some (aI v4)]) (stk' := [aI v3]) (σ' := σ) (g := []) (by decide +kernel) rfl rfl ?_
      cases h
      exact aw_iret rfl (by decide +kernel)
    · rw [if_neg c1] at h
      obtain ⟨hg, h⟩ := grd_some h
      refine aw_seq [(.aload_n 0, 1, ax0), (.getfield 18, 3, (axF 8 3 (2, 3, 13, some 8))), (.iload 4, 2, ax0), (.iaload, 1, ax0), (.iload_n 1, 1, ax0)] (pc' := 22) (L' := [some (aR 8 0 t), some (aI v1), some (aI v2), some (aI v3), some (aI v4)]) (stk' := [aI v1, aI (σ.1 (t + 3) (ix v4))]) (σ' := σ) (g := [inb v4 8]) (by decide +kernel) rfl hg ?_
      refine aw_icmp_lt (off := 21) (tgt := 43) (by decide +kernel) (by decide) (fun c1 => ?_) (fun c1 => ?_)
      · rw [if_pos c1] at h
        refine aw_forget (L' := [some (aR 8 0 t), some (aI v1), some (aI v2), some (aI v3), some (aI v4)]) (lsub_s (lsub_s (lsub_s (lsub_s (lsub_s (lsub_0)))))) ?_
        exact ok_X8_housesBy_43 ih v1 v2 v3 v4 σ _ h
      · rw [if_neg c1] at h
        obtain ⟨hg, h⟩ := grd_some h
        refine aw_seq [(.aload_n 0, 1, ax0), (.getfield 18, 3, (axF 8 3 (2, 3, 13, some 8))), (.iload 4, 2, ax0), (.iaload, 1, ax0), (.iload_n 2, 1, ax0)] (pc' := 33) (L' := [some (aR 8 0 t), some (aI v1), some (aI v2), some (aI v3), some (aI v4)]) (stk' := [aI v2, aI (σ.1 (t + 3) (ix v4))]) (σ' := σ) (g := [inb v4 8]) (by decide +kernel) rfl hg ?_
        refine aw_icmp_gt (off := 10) (tgt := 43) (by decide +kernel) (by decide) (fun c1 => ?_) (fun c1 => ?_)
        · rw [if_pos c1] at h
          refine aw_forget (L' := [some (aR 8 0 t), some (aI v1), some (aI v2), some (aI v3), some (aI v4)]) (lsub_s (lsub_s (lsub_s (lsub_s (lsub_s (lsub_0)))))) ?_
          exact ok_X8_housesBy_43 ih v1 v2 v3 v4 σ _ h
        · rw [if_neg c1] at h
          refine aw_seq [(.iload_n 3, 1, ax0), (.iconst 1, 1, (axI 1)), (.iload 4, 2, ax0), (.ishl, 1, ax0), (.ior, 1, ax0), (.istore_n 3, 1, ax0)] (pc' := 43) (L' := [some (aR 8 0 t), some (aI v1), some (aI v2), some (aI (v3 ||| (shl 1 v4))), some (aI v4)]) (stk' := []) (σ' := σ) (g := []) (by decide +kernel) rfl rfl ?_
          refine aw_forget (L' := [some (aR 8 0 t), some (aI v1), some (aI v2), some (aI (v3 ||| (shl 1 v4))), some (aI v4)]) (lsub_s (lsub_s (lsub_s (lsub_s (lsub_s (lsub_0)))))) ?_
          exact ok_X8_housesBy_43 ih v1 v2 (v3 ||| (shl 1 v4)) v4 σ _ h
def f_X8_housesBy (t : Nat) (v1 : Int32) (v2 : Int32) (σ : Sg) : Option (Int32 × Sg) :=
  f_X8_housesBy_5 t FU v1 v2 0 0 σ
set_option maxRecDepth 100000 in
set_option maxHeartbeats 4000000 in
theorem ok_X8_housesBy {κ : Kd} {t : Nat} {v1 : Int32} {v2 : Int32} {σ : Sg} {q : (Int32 × Sg)} (h : f_X8_housesBy t v1 v2 σ = some q) : AMet κ pX8_housesBy 1 [aR 8 0 t, aI v1, aI v2] σ (some (aI q.1), q.2) := by
  unfold f_X8_housesBy at h
  refine amet_of okp_X8_housesBy [(false, aR 8 0 t), (false, aI v1), (false, aI v2)] (List.forall_mem_cons.mpr ⟨rfl, List.forall_mem_cons.mpr ⟨rfl, List.forall_mem_cons.mpr ⟨rfl, (fun _ hn => absurd hn List.not_mem_nil)⟩⟩⟩) 2 rfl ?_
  show AW κ pX8_housesBy 1 (some (aI q.1), q.2) 0 [some (aR 8 0 t), some (aI v1), some (aI v2), none, none] [] σ
  refine aw_seq [(.iconst 0, 1, (axI 0)), (.istore_n 3, 1, ax0), (.iconst 0, 1, (axI 0)), (.istore 4, 2, ax0)] (pc' := 5) (L' := [some (aR 8 0 t), some (aI v1), some (aI v2), some (aI 0), some (aI 0)]) (stk' := []) (σ' := σ) (g := []) (by decide +kernel) rfl rfl ?_
  refine aw_forget (L' := [some (aR 8 0 t), some (aI v1), some (aI v2), some (aI 0), some (aI 0)]) (lsub_s (lsub_s (lsub_s (lsub_s (lsub_s (lsub_0)))))) ?_
  exact ok_X8_housesBy_5 FU v1 v2 0 0 σ _ h
def f_X1_visit_18 (κ : Kd) (t : Nat) (s : Nat)   (σ : Sg) : Option (Int32 × Sg) :=
  some ((-1), σ)
set_option maxRecDepth 100000 in
set_option maxHeartbeats 4000000 in
theorem ok_X1_visit_18 {κ : Kd} {t : Nat} {s : Nat}   : ∀  (σ : Sg) (q : (Int32 × Sg)), f_X1_visit_18 κ t s  σ = some q → AW κ pX1_visit 5 (some (aI q.1), q.2) 18 [none, none, none, none, none, none, none] [] σ := by
  intro  σ q h
  unfold f_X1_visit_18 at h
  refine aw_seq [(.iconst (-1), 1, (axI (-1)))] (pc' := 19) (L' := [none, none, none, none, none, none, none]) (stk' := [aI (-1)]) (σ' := σ) (g := []) (by decide +kernel) rfl rfl ?_
  cases h
  exact aw_iret rfl (by decide +kernel)
def f_X1_visit (κ : Kd) (t : Nat) (s : Nat) (r : Option Nat) (v4 : Int32) (σ : Sg) : Option (Int32 × Sg) :=
  bnd (f_X8_bell t σ) fun r3 σ2 =>
  if r3 = 0 then (
    f_X1_visit_18 κ t s σ2
  ) else (
    grd (inb v4 8 && true) <|
    if (σ2.1 (t + 3) (ix v4)) = 2 then (
      bnd (f_X8_housesBy t 3 3 σ2) fun r6 σ5 =>
      bnd (f_X5_near s v4 r6 σ5) fun r9 σ8 =>
      bnd (f_X1_rate κ t r 2 v4 r9 σ8) fun r12 σ11 =>
      grd (inb v4 8 && true) <|
      grd (inb v4 8 && (inb v4 8 && true)) <|
      ltσ (wI σ11 (t + 2) (ix v4) ((σ11.1 (t + 2) (ix v4)) - (imin r12 (σ11.1 (t + 2) (ix v4))))) fun σ13 =>
      grd (inb v4 8 && true) <|
      ltσ (wI σ13 (t + 3) (ix v4) 1) fun σ15 =>
      bndV (f_X8_note t v4 5 σ15) fun σ18 =>
      some ((imin r12 (σ11.1 (t + 2) (ix v4))), σ18)
    ) else (
      f_X1_visit_18 κ t s σ2
    )
  )
set_option maxRecDepth 100000 in
set_option maxHeartbeats 4000000 in
theorem ok_X1_visit {κ : Kd} {t : Nat} {s : Nat} {r : Option Nat} {v4 : Int32} {σ : Sg} {q : (Int32 × Sg)} (h : f_X1_visit κ t s r v4 σ = some q) : AMet κ pX1_visit 5 [aR 1 0 47, aR 8 0 t, aR 5 0 s, aT r, aI v4] σ (some (aI q.1), q.2) := by
  unfold f_X1_visit at h
  refine amet_of okp_X1_visit [(false, aR 1 0 47), (false, aR 8 0 t), (false, aR 5 0 s), (false, aT r), (false, aI v4)] (List.forall_mem_cons.mpr ⟨rfl, List.forall_mem_cons.mpr ⟨rfl, List.forall_mem_cons.mpr ⟨rfl, List.forall_mem_cons.mpr ⟨isL_aT _, List.forall_mem_cons.mpr ⟨rfl, (fun _ hn => absurd hn List.not_mem_nil)⟩⟩⟩⟩⟩) 2 rfl ?_
  show AW κ pX1_visit 5 (some (aI q.1), q.2) 0 [some (aR 1 0 47), some (aR 8 0 t), some (aR 5 0 s), some (aT r), some (aI v4), none, none] [] σ
  refine aw_seq [(.aload_n 1, 1, ax0)] (pc' := 1) (L' := [some (aR 1 0 47), some (aR 8 0 t), some (aR 5 0 s), some (aT r), some (aI v4), none, none]) (stk' := [aR 8 0 t]) (σ' := σ) (g := []) (by decide +kernel) rfl rfl ?_
  obtain ⟨r3, σ2, h1, h⟩ := bnd_some h
  refine aw_cV (P' := pX8_bell) (idx := 73) (d' := 1) (c := 8) (n := 0) (k := t) [] [] (ov := (some (aI r3))) (stk2 := [aI r3]) okp_X8_bell (by decide +kernel) ml_RX1_73 vok_X8_bell (by decide) rfl nar_X8_bell (by decide) rfl (Nat.le_of_ble_eq_true rfl) (ok_X8_bell h1) rfl ?_
  refine aw_if_eq (off := 14) (tgt := 18) (by decide +kernel) (by decide) (fun c1 => ?_) (fun c1 => ?_)
  · rw [if_pos c1] at h
    refine aw_forget (L' := [none, none, none, none, none, none, none]) (lsub_n (lsub_n (lsub_n (lsub_n (lsub_n (lsub_n (lsub_n (lsub_0)))))))) ?_
    exact ok_X1_visit_18 σ2 _ h
  · rw [if_neg c1] at h
    obtain ⟨hg, h⟩ := grd_some h
    refine aw_seq [(.aload_n 1, 1, ax0), (.getfield 70, 3, (axF 8 3 (2, 3, 13, some 8))), (.iload 4, 2, ax0), (.iaload, 1, ax0), (.iconst 2, 1, (axI 2))] (pc' := 15) (L' := [some (aR 1 0 47), some (aR 8 0 t), some (aR 5 0 s), some (aT r), some (aI v4), none, none]) (stk' := [aI 2, aI (σ2.1 (t + 3) (ix v4))]) (σ' := σ2) (g := [inb v4 8]) (by decide +kernel) rfl hg ?_
    refine aw_icmp_eq (off := 5) (tgt := 20) (by decide +kernel) (by decide) (fun c1 => ?_) (fun c1 => ?_)
    · rw [if_pos c1] at h
      refine aw_seq [(.aload_n 2, 1, ax0), (.iload 4, 2, ax0), (.aload_n 1, 1, ax0), (.iconst 3, 1, (axI 3)), (.iconst 3, 1, (axI 3))] (pc' := 26) (L' := [some (aR 1 0 47), some (aR 8 0 t), some (aR 5 0 s), some (aT r), some (aI v4), none, none]) (stk' := [aI 3, aI 3, aR 8 0 t, aI v4, aR 5 0 s]) (σ' := σ2) (g := []) (by decide +kernel) rfl rfl ?_
      obtain ⟨r6, σ5, h4, h⟩ := bnd_some h
      refine aw_cV (P' := pX8_housesBy) (idx := 25) (d' := 1) (c := 8) (n := 0) (k := t) [aI 3, aI 3] [aI v4, aR 5 0 s] (ov := (some (aI r6))) (stk2 := [aI r6, aI v4, aR 5 0 s]) okp_X8_housesBy (by decide +kernel) ml_RX1_25 vok_X8_housesBy (by decide) rfl nar_X8_housesBy (by decide) rfl (Nat.le_of_ble_eq_true rfl) (ok_X8_housesBy h4) rfl ?_
      obtain ⟨r9, σ8, h7, h⟩ := bnd_some h
      refine aw_cV (P' := pX5_near) (idx := 40) (d' := 2) (c := 5) (n := 0) (k := s) [aI v4, aI r6] [] (ov := (some (aI r9))) (stk2 := [aI r9]) okp_X5_near (by decide +kernel) ml_RX1_40 vok_X5_near (by decide) rfl nar_X5_near (by decide) rfl (Nat.le_of_ble_eq_true rfl) (ok_X5_near h7) rfl ?_
      refine aw_seq [(.istore 5, 2, ax0), (.aload_n 0, 1, ax0), (.aload_n 1, 1, ax0), (.aload_n 3, 1, ax0), (.iconst 2, 1, (axI 2)), (.iload 4, 2, ax0), (.iload 5, 2, ax0)] (pc' := 42) (L' := [some (aR 1 0 47), some (aR 8 0 t), some (aR 5 0 s), some (aT r), some (aI v4), some (aI r9), none]) (stk' := [aI r9, aI v4, aI 2, aT r, aR 8 0 t, aR 1 0 47]) (σ' := σ8) (g := []) (by decide +kernel) rfl rfl ?_
      obtain ⟨r12, σ11, h10, h⟩ := bnd_some h
      refine aw_cV (P' := pX1_rate) (idx := 61) (d' := 4) (c := 1) (n := 0) (k := 47) [aR 8 0 t, aT r, aI 2, aI v4, aI r9] [] (ov := (some (aI r12))) (stk2 := [aI r12]) okp_X1_rate (by decide +kernel) ml_RX1_61 vok_X1_rate (by decide) rfl nar_X1_rate (by decide) rfl (Nat.le_of_ble_eq_true rfl) (ok_X1_rate h10) rfl ?_
      obtain ⟨hg, h⟩ := grd_some h
      refine aw_seq [(.aload_n 1, 1, ax0), (.getfield 77, 3, (axF 8 2 (2, 2, 13, some 8))), (.iload 4, 2, ax0), (.iaload, 1, ax0)] (pc' := 52) (L' := [some (aR 1 0 47), some (aR 8 0 t), some (aR 5 0 s), some (aT r), some (aI v4), some (aI r9), none]) (stk' := [aI (σ11.1 (t + 2) (ix v4)), aI r12]) (σ' := σ11) (g := [inb v4 8]) (by decide +kernel) rfl hg ?_
      refine aw_imin (idx := 80) (by decide) (Nat.le_of_ble_eq_true rfl) jw_imin ml_RX1_80 (by decide +kernel) ?_
      obtain ⟨hg, h⟩ := grd_some h
      obtain ⟨σ13, e14, h⟩ := ltσ_some h
      refine aw_seq [(.istore 6, 2, ax0), (.aload_n 1, 1, ax0), (.getfield 77, 3, (axF 8 2 (2, 2, 13, some 8))), (.iload 4, 2, ax0), (.dup2, 1, ax0), (.iaload, 1, ax0), (.iload 6, 2, ax0), (.isub, 1, ax0), (.iastore, 1, ax0)] (pc' := 69) (L' := [some (aR 1 0 47), some (aR 8 0 t), some (aR 5 0 s), some (aT r), some (aI v4), some (aI r9), some (aI (imin r12 (σ11.1 (t + 2) (ix v4))))]) (stk' := []) (σ' := σ13) (g := [inb v4 8, inb v4 8]) (by decide +kernel) (by rw [e14]; rfl) hg ?_
      obtain ⟨hg, h⟩ := grd_some h
      obtain ⟨σ15, e16, h⟩ := ltσ_some h
      refine aw_seq [(.aload_n 1, 1, ax0), (.getfield 70, 3, (axF 8 3 (2, 3, 13, some 8))), (.iload 4, 2, ax0), (.iconst 1, 1, (axI 1)), (.iastore, 1, ax0)] (pc' := 77) (L' := [some (aR 1 0 47), some (aR 8 0 t), some (aR 5 0 s), some (aT r), some (aI v4), some (aI r9), some (aI (imin r12 (σ11.1 (t + 2) (ix v4))))]) (stk' := []) (σ' := σ15) (g := [inb v4 8]) (by decide +kernel) (by rw [e16]; rfl) hg ?_
      refine aw_seq [(.aload_n 1, 1, ax0), (.iload 4, 2, ax0), (.iconst 5, 1, (axI 5))] (pc' := 81) (L' := [some (aR 1 0 47), some (aR 8 0 t), some (aR 5 0 s), some (aT r), some (aI v4), some (aI r9), some (aI (imin r12 (σ11.1 (t + 2) (ix v4))))]) (stk' := [aI 5, aI v4, aR 8 0 t]) (σ' := σ15) (g := []) (by decide +kernel) rfl rfl ?_
      obtain ⟨σ18, h17, h⟩ := bndV_some h
      refine aw_cV (P' := pX8_note) (idx := 36) (d' := 2) (c := 8) (n := 0) (k := t) [aI v4, aI 5] [] (ov := none) (stk2 := []) okp_X8_note (by decide +kernel) ml_RX1_36 vok_X8_note (by decide) rfl nar_X8_note (by decide) rfl (Nat.le_of_ble_eq_true rfl) (ok_X8_note h17) rfl ?_
      refine aw_seq [(.iload 6, 2, ax0)] (pc' := 86) (L' := [some (aR 1 0 47), some (aR 8 0 t), some (aR 5 0 s), some (aT r), some (aI v4), some (aI r9), some (aI (imin r12 (σ11.1 (t + 2) (ix v4))))]) (stk' := [aI (imin r12 (σ11.1 (t + 2) (ix v4)))]) (σ' := σ18) (g := []) (by decide +kernel) rfl rfl ?_
      cases h
      exact aw_iret rfl (by decide +kernel)
    · rw [if_neg c1] at h
      refine aw_forget (L' := [none, none, none, none, none, none, none]) (lsub_n (lsub_n (lsub_n (lsub_n (lsub_n (lsub_n (lsub_n (lsub_0)))))))) ?_
      exact ok_X1_visit_18 σ2 _ h
def f_X10_textOf_29 (w : Nat)  (s0 : Option Nat) (σ : Sg) : Option (Option Nat × Sg) :=
  some (s0, σ)
set_option maxRecDepth 100000 in
set_option maxHeartbeats 4000000 in
theorem ok_X10_textOf_29 {κ : Kd} {w : Nat}   : ∀ (s0 : Option Nat) (σ : Sg) (q : (Option Nat × Sg)), f_X10_textOf_29 w s0 σ = some q → AW κ pX10_textOf 2 (some (aT q.1), q.2) 29 [none, none] [aT s0] σ := by
  intro s0 σ q h
  unfold f_X10_textOf_29 at h
  cases h
  exact aw_aretT rfl (by decide +kernel)
def f_X10_textOf_28 (w : Nat)   (σ : Sg) : Option (Option Nat × Sg) :=
  f_X10_textOf_29 w none σ
set_option maxRecDepth 100000 in
set_option maxHeartbeats 4000000 in
theorem ok_X10_textOf_28 {κ : Kd} {w : Nat}   : ∀  (σ : Sg) (q : (Option Nat × Sg)), f_X10_textOf_28 w  σ = some q → AW κ pX10_textOf 2 (some (aT q.1), q.2) 28 [none, none] [] σ := by
  intro  σ q h
  unfold f_X10_textOf_28 at h
  refine aw_seq [(.aconst_null, 1, ax0)] (pc' := 29) (L' := [none, none]) (stk' := [aN]) (σ' := σ) (g := []) (by decide +kernel) rfl rfl ?_
  refine aw_forget (L' := [none, none]) (lsub_n (lsub_n (lsub_0))) ?_
  exact ok_X10_textOf_29 none σ _ h
def f_X10_textOf (w : Nat) (v1 : Int32) (σ : Sg) : Option (Option Nat × Sg) :=
  bnd (f_X11_within v1 0 ((σ.1 w 4) - 1) σ) fun r3 σ2 =>
  if r3 = 0 then (
    f_X10_textOf_28 w σ2
  ) else (
    if 4 ≤ v1 then (
      f_X10_textOf_28 w σ2
    ) else (
      grd (inb v1 4 && true) <|
      ltT (σ2.2.2 (w + 12) (ix v1)) fun r4 =>
      f_X10_textOf_29 w r4 σ2
    )
  )
set_option maxRecDepth 100000 in
set_option maxHeartbeats 4000000 in
theorem ok_X10_textOf {κ : Kd} {w : Nat} {v1 : Int32} {σ : Sg} {q : (Option Nat × Sg)} (h : f_X10_textOf w v1 σ = some q) : AMet κ pX10_textOf 2 [aR 10 0 w, aI v1] σ (some (aT q.1), q.2) := by
  unfold f_X10_textOf at h
  refine amet_of okp_X10_textOf [(false, aR 10 0 w), (false, aI v1)] (List.forall_mem_cons.mpr ⟨rfl, List.forall_mem_cons.mpr ⟨rfl, (fun _ hn => absurd hn List.not_mem_nil)⟩⟩) 0 rfl ?_
  show AW κ pX10_textOf 2 (some (aT q.1), q.2) 0 [some (aR 10 0 w), some (aI v1)] [] σ
  refine aw_seq [(.iload_n 1, 1, ax0), (.iconst 0, 1, (axI 0)), (.aload_n 0, 1, ax0), (.getfield 75, 3, (axF 10 4 (0, 0, 0, none))), (.iconst 1, 1, (axI 1)), (.isub, 1, ax0)] (pc' := 8) (L' := [some (aR 10 0 w), some (aI v1)]) (stk' := [aI ((σ.1 w 4) - 1), aI 0, aI v1]) (σ' := σ) (g := []) (by decide +kernel) rfl rfl ?_
  obtain ⟨r3, σ2, h1, h⟩ := bnd_some h
  refine aw_cSN (P' := pX11_within) (idx := 90) (d' := 1) [aI v1, aI 0, aI ((σ.1 w 4) - 1)] [] (ov := (some (aI r3))) (stk2 := [aI r3]) okp_X11_within (by decide +kernel) ml_RX10_90 tok_X11_within nar_X11_within (by decide) rfl (Nat.le_of_ble_eq_true rfl) (ok_X11_within h1) rfl ?_
  refine aw_if_eq (off := 17) (tgt := 28) (by decide +kernel) (by decide) (fun c1 => ?_) (fun c1 => ?_)
  · rw [if_pos c1] at h
    refine aw_forget (L' := [none, none]) (lsub_n (lsub_n (lsub_0))) ?_
    exact ok_X10_textOf_28 σ2 _ h
  · rw [if_neg c1] at h
    refine aw_seq [(.iload_n 1, 1, ax0), (.iconst 4, 1, (axI 4))] (pc' := 16) (L' := [some (aR 10 0 w), some (aI v1)]) (stk' := [aI 4, aI v1]) (σ' := σ2) (g := []) (by decide +kernel) rfl rfl ?_
    refine aw_icmp_ge (off := 12) (tgt := 28) (by decide +kernel) (by decide) (fun c1 => ?_) (fun c1 => ?_)
    · rw [if_pos c1] at h
      refine aw_forget (L' := [none, none]) (lsub_n (lsub_n (lsub_0))) ?_
      exact ok_X10_textOf_28 σ2 _ h
    · rw [if_neg c1] at h
      obtain ⟨hg, h⟩ := grd_some h
      obtain ⟨r4, e5, h⟩ := ltT_some h
      refine aw_seq [(.aload_n 0, 1, ax0), (.getfield 34, 3, (axF 10 3 (2, 12, 16, some 4))), (.iload_n 1, 1, ax0), (.aaload, 1, ax0)] (pc' := 25) (L' := [some (aR 10 0 w), some (aI v1)]) (stk' := [aT r4]) (σ' := σ2) (g := [inb v1 4]) (by decide +kernel) (by rw [e5]; rfl) hg ?_
      refine aw_goto (off := 4) (tgt := 29) (by decide +kernel) (by decide) ?_
      refine aw_forget (L' := [none, none]) (lsub_n (lsub_n (lsub_0))) ?_
      exact ok_X10_textOf_29 r4 σ2 _ h
def f_X10_rule (w : Nat) (σ : Sg) : Option (Option Nat × Sg) :=
  bnd (f_X10_textOf w (σ.1 w 5) σ) fun r3 σ2 =>
  some (r3, σ2)
set_option maxRecDepth 100000 in
set_option maxHeartbeats 4000000 in
theorem ok_X10_rule {κ : Kd} {w : Nat} {σ : Sg} {q : (Option Nat × Sg)} (h : f_X10_rule w σ = some q) : AMet κ pX10_rule 3 [aR 10 0 w] σ (some (aT q.1), q.2) := by
  unfold f_X10_rule at h
  refine amet_of okp_X10_rule [(false, aR 10 0 w)] (List.forall_mem_cons.mpr ⟨rfl, (fun _ hn => absurd hn List.not_mem_nil)⟩) 0 rfl ?_
  show AW κ pX10_rule 3 (some (aT q.1), q.2) 0 [some (aR 10 0 w)] [] σ
  refine aw_seq [(.aload_n 0, 1, ax0), (.aload_n 0, 1, ax0), (.getfield 38, 3, (axF 10 5 (0, 0, 0, none)))] (pc' := 5) (L' := [some (aR 10 0 w)]) (stk' := [aI (σ.1 w 5), aR 10 0 w]) (σ' := σ) (g := []) (by decide +kernel) rfl rfl ?_
  obtain ⟨r3, σ2, h1, h⟩ := bnd_some h
  refine aw_cV (P' := pX10_textOf) (idx := 94) (d' := 2) (c := 10) (n := 0) (k := w) [aI (σ.1 w 5)] [] (ov := (some (aT r3))) (stk2 := [aT r3]) okp_X10_textOf (by decide +kernel) ml_RX10_94 vok_X10_textOf (by decide) rfl nar_X10_textOf (by decide) rfl (Nat.le_of_ble_eq_true rfl) (ok_X10_textOf h1) rfl ?_
  cases h
  exact aw_aretT rfl (by decide +kernel)
def f_X11_warden (κ : Kd) (v1 : Int32) (σ : Sg) : Option (Int32 × Sg) :=
  bnd (f_X8_told 2 v1 σ) fun r3 σ2 =>
  if r3 = 0 then (
    some ((-2), σ2)
  ) else (
    bndV (f_X4_keep 11 2 σ2) fun σ5 =>
    bnd (f_X10_rule 1 σ5) fun r8 σ7 =>
    bnd (f_X1_visit κ 2 8 r8 v1 σ7) fun r11 σ10 =>
    some (r11, σ10)
  )
set_option maxRecDepth 100000 in
set_option maxHeartbeats 4000000 in
theorem ok_X11_warden {κ : Kd} {v1 : Int32} {σ : Sg} {q : (Int32 × Sg)} (h : f_X11_warden κ v1 σ = some q) : AMet κ pX11_warden 6 [aR 11 0 0, aI v1] σ (some (aI q.1), q.2) := by
  unfold f_X11_warden at h
  refine amet_of okp_X11_warden [(false, aR 11 0 0), (false, aI v1)] (List.forall_mem_cons.mpr ⟨rfl, List.forall_mem_cons.mpr ⟨rfl, (fun _ hn => absurd hn List.not_mem_nil)⟩⟩) 0 rfl ?_
  show AW κ pX11_warden 6 (some (aI q.1), q.2) 0 [some (aR 11 0 0), some (aI v1)] [] σ
  refine aw_seq [(.aload_n 0, 1, ax0), (.getfield 10, 3, (axF 11 0 (2, 1, 10, some 0))), (.getfield 68, 3, (axF 10 0 (2, 1, 8, some 0))), (.iload_n 1, 1, ax0)] (pc' := 8) (L' := [some (aR 11 0 0), some (aI v1)]) (stk' := [aI v1, aR 8 0 2]) (σ' := σ) (g := []) (by decide +kernel) rfl rfl ?_
  obtain ⟨r3, σ2, h1, h⟩ := bnd_some h
  refine aw_cV (P' := pX8_told) (idx := 75) (d' := 1) (c := 8) (n := 0) (k := 2) [aI v1] [] (ov := (some (aI r3))) (stk2 := [aI r3]) okp_X8_told (by decide +kernel) ml_RX11_75 vok_X8_told (by decide) rfl nar_X8_told (by decide) rfl (Nat.le_of_ble_eq_true rfl) (ok_X8_told h1) rfl ?_
  refine aw_if_ne (off := 6) (tgt := 17) (by decide +kernel) (by decide) (fun c1 => ?_) (fun c1 => ?_)
  · rw [if_neg c1] at h
    refine aw_seq [(.aload_n 0, 1, ax0), (.getfield 10, 3, (axF 11 0 (2, 1, 10, some 0))), (.getfield 133, 3, (axF 10 2 (2, 10, 4, some 0))), (.aload_n 0, 1, ax0), (.getfield 10, 3, (axF 11 0 (2, 1, 10, some 0))), (.getfield 68, 3, (axF 10 0 (2, 1, 8, some 0)))] (pc' := 31) (L' := [some (aR 11 0 0), some (aI v1)]) (stk' := [aR 8 0 2, aR 4 0 11]) (σ' := σ2) (g := []) (by decide +kernel) rfl rfl ?_
    obtain ⟨σ5, h4, h⟩ := bndV_some h
    refine aw_cV (P' := pX4_keep) (idx := 137) (d' := 3) (c := 4) (n := 0) (k := 11) [aR 8 0 2] [] (ov := none) (stk2 := []) okp_X4_keep (by decide +kernel) ml_RX11_137 vok_X4_keep (by decide) rfl nar_X4_keep (by decide) rfl (Nat.le_of_ble_eq_true rfl) (ok_X4_keep h4) rfl ?_
    refine aw_seq [(.aload_n 0, 1, ax0), (.getfield 29, 3, (axF 11 3 (2, 47, 1, some 0))), (.aload_n 0, 1, ax0), (.getfield 10, 3, (axF 11 0 (2, 1, 10, some 0))), (.getfield 68, 3, (axF 10 0 (2, 1, 8, some 0))), (.aload_n 0, 1, ax0), (.getfield 10, 3, (axF 11 0 (2, 1, 10, some 0))), (.getfield 83, 3, (axF 10 1 (2, 7, 5, some 0))), (.aload_n 0, 1, ax0), (.getfield 10, 3, (axF 11 0 (2, 1, 10, some 0)))] (pc' := 56) (L' := [some (aR 11 0 0), some (aI v1)]) (stk' := [aR 10 0 1, aR 5 0 8, aR 8 0 2, aR 1 0 47]) (σ' := σ5) (g := []) (by decide +kernel) rfl rfl ?_
    obtain ⟨r8, σ7, h6, h⟩ := bnd_some h
    refine aw_cV (P' := pX10_rule) (idx := 143) (d' := 3) (c := 10) (n := 0) (k := 1) [] [aR 5 0 8, aR 8 0 2, aR 1 0 47] (ov := (some (aT r8))) (stk2 := [aT r8, aR 5 0 8, aR 8 0 2, aR 1 0 47]) okp_X10_rule (by decide +kernel) ml_RX11_143 vok_X10_rule (by decide) rfl nar_X10_rule (by decide) rfl (Nat.le_of_ble_eq_true rfl) (ok_X10_rule h6) rfl ?_
    refine aw_seq [(.iload_n 1, 1, ax0)] (pc' := 60) (L' := [some (aR 11 0 0), some (aI v1)]) (stk' := [aI v1, aT r8, aR 5 0 8, aR 8 0 2, aR 1 0 47]) (σ' := σ7) (g := []) (by decide +kernel) rfl rfl ?_
    obtain ⟨r11, σ10, h9, h⟩ := bnd_some h
    refine aw_cV (P' := pX1_visit) (idx := 147) (d' := 5) (c := 1) (n := 0) (k := 47) [aR 8 0 2, aR 5 0 8, aT r8, aI v1] [] (ov := (some (aI r11))) (stk2 := [aI r11]) okp_X1_visit (by decide +kernel) ml_RX11_147 vok_X1_visit (by decide) rfl nar_X1_visit (by decide) rfl (Nat.le_of_ble_eq_true rfl) (ok_X1_visit h9) rfl ?_
    cases h
    exact aw_iret rfl (by decide +kernel)
  · rw [if_pos c1] at h
    refine aw_seq [(.bipush (-2), 2, (axI (-2)))] (pc' := 16) (L' := [some (aR 11 0 0), some (aI v1)]) (stk' := [aI (-2)]) (σ' := σ2) (g := []) (by decide +kernel) rfl rfl ?_
    cases h
    exact aw_iret rfl (by decide +kernel)
def f_X8_nextX (t : Nat) (σ : Sg) : Option (Int32 × Sg) :=
  grd ((!decide ((30497 : Int32) = 0)) && true) <|
  ltσ (wI σ t 7 (jrem (((σ.1 t 7) * 397) + 277) 30497)) fun σ1 =>
  some ((σ.1 t 7), σ1)
set_option maxRecDepth 100000 in
set_option maxHeartbeats 4000000 in
theorem ok_X8_nextX {κ : Kd} {t : Nat} {σ : Sg} {q : (Int32 × Sg)} (h : f_X8_nextX t σ = some q) : AMet κ pX8_nextX 1 [aR 8 0 t] σ (some (aI q.1), q.2) := by
  unfold f_X8_nextX at h
  refine amet_of okp_X8_nextX [(false, aR 8 0 t)] (List.forall_mem_cons.mpr ⟨rfl, (fun _ hn => absurd hn List.not_mem_nil)⟩) 1 rfl ?_
  show AW κ pX8_nextX 1 (some (aI q.1), q.2) 0 [some (aR 8 0 t), none] [] σ
  obtain ⟨hg, h⟩ := grd_some h
  obtain ⟨σ1, e2, h⟩ := ltσ_some h
  refine aw_seq [(.aload_n 0, 1, ax0), (.getfield 24, 3, (axF 8 7 (0, 0, 0, none))), (.istore_n 1, 1, ax0), (.aload_n 0, 1, ax0), (.aload_n 0, 1, ax0), (.getfield 24, 3, (axF 8 7 (0, 0, 0, none))), (.sipush 397, 3, (axI 397)), (.imul, 1, ax0), (.sipush 277, 3, (axI 277)), (.iadd, 1, ax0), (.sipush 30497, 3, (axI 30497)), (.irem, 1, ax0), (.putfield 24, 3, (axF 8 7 (0, 0, 0, none)))] (pc' := 25) (L' := [some (aR 8 0 t), some (aI (σ.1 t 7))]) (stk' := []) (σ' := σ1) (g := [(!decide ((30497 : Int32) = 0))]) (by decide +kernel) (by rw [e2]; rfl) hg ?_
  refine aw_seq [(.iload_n 1, 1, ax0)] (pc' := 26) (L' := [some (aR 8 0 t), some (aI (σ.1 t 7))]) (stk' := [aI (σ.1 t 7)]) (σ' := σ1) (g := []) (by decide +kernel) rfl rfl ?_
  cases h
  exact aw_iret rfl (by decide +kernel)
def f_X8_draw (t : Nat) (σ : Sg) : Option (Int32 × Sg) :=
  bnd (f_X8_nextX t σ) fun r3 σ2 =>
  grd ((!decide ((10 : Int32) = 0)) && true) <|
  some ((jrem r3 10), σ2)
set_option maxRecDepth 100000 in
set_option maxHeartbeats 4000000 in
theorem ok_X8_draw {κ : Kd} {t : Nat} {σ : Sg} {q : (Int32 × Sg)} (h : f_X8_draw t σ = some q) : AMet κ pX8_draw 2 [aR 8 0 t] σ (some (aI q.1), q.2) := by
  unfold f_X8_draw at h
  refine amet_of okp_X8_draw [(false, aR 8 0 t)] (List.forall_mem_cons.mpr ⟨rfl, (fun _ hn => absurd hn List.not_mem_nil)⟩) 0 rfl ?_
  show AW κ pX8_draw 2 (some (aI q.1), q.2) 0 [some (aR 8 0 t)] [] σ
  refine aw_seq [(.aload_n 0, 1, ax0)] (pc' := 1) (L' := [some (aR 8 0 t)]) (stk' := [aR 8 0 t]) (σ' := σ) (g := []) (by decide +kernel) rfl rfl ?_
  obtain ⟨r3, σ2, h1, h⟩ := bnd_some h
  refine aw_cV (P' := pX8_nextX) (idx := 62) (d' := 1) (c := 8) (n := 0) (k := t) [] [] (ov := (some (aI r3))) (stk2 := [aI r3]) okp_X8_nextX (by decide +kernel) ml_RX8_62 vok_X8_nextX (by decide) rfl nar_X8_nextX (by decide) rfl (Nat.le_of_ble_eq_true rfl) (ok_X8_nextX h1) rfl ?_
  obtain ⟨hg, h⟩ := grd_some h
  refine aw_seq [(.bipush 10, 2, (axI 10)), (.irem, 1, ax0)] (pc' := 7) (L' := [some (aR 8 0 t)]) (stk' := [aI (jrem r3 10)]) (σ' := σ2) (g := [(!decide ((10 : Int32) = 0))]) (by decide +kernel) rfl hg ?_
  cases h
  exact aw_iret rfl (by decide +kernel)
def f_X1_catches_82 (κ : Kd) (t : Nat)   (σ : Sg) : Option (Int32 × Sg) :=
  some (0, σ)
set_option maxRecDepth 100000 in
set_option maxHeartbeats 4000000 in
theorem ok_X1_catches_82 {κ : Kd} {t : Nat}   : ∀  (σ : Sg) (q : (Int32 × Sg)), f_X1_catches_82 κ t  σ = some q → AW κ pX1_catches 5 (some (aI q.1), q.2) 82 [none, none, none, none, none, none] [] σ := by
  intro  σ q h
  unfold f_X1_catches_82 at h
  refine aw_seq [(.iconst 0, 1, (axI 0))] (pc' := 83) (L' := [none, none, none, none, none, none]) (stk' := [aI 0]) (σ' := σ) (g := []) (by decide +kernel) rfl rfl ?_
  cases h
  exact aw_zret rfl bz_0 (by decide +kernel)
def f_X1_catches_84 (κ : Kd) (t : Nat)  (v2 : Option Nat) (v3 : Int32) (v4 : Int32) (σ : Sg) : Option (Int32 × Sg) :=
  bnd (f_X8_draw t σ) fun r3 σ2 =>
  bnd (f_X1_rate κ t v2 1 v3 v4 σ2) fun r6 σ5 =>
  if r3 < r6 then (
    grd (inb v3 8 && true) <|
    ltσ (wI σ5 (t + 3) (ix v3) 3) fun σ7 =>
    bndV (f_X8_note t v3 3 σ7) fun σ10 =>
    some (1, σ10)
  ) else (
    some (0, σ5)
  )
set_option maxRecDepth 100000 in
set_option maxHeartbeats 4000000 in
theorem ok_X1_catches_84 {κ : Kd} {t : Nat}   : ∀ (v2 : Option Nat) (v3 : Int32) (v4 : Int32) (σ : Sg) (q : (Int32 × Sg)), f_X1_catches_84 κ t v2 v3 v4 σ = some q → AW κ pX1_catches 5 (some (aI q.1), q.2) 84 [some (aR 1 0 47), some (aR 8 0 t), some (aT v2), some (aI v3), some (aI v4), none] [] σ := by
  intro v2 v3 v4 σ q h
  unfold f_X1_catches_84 at h
  refine aw_seq [(.aload_n 1, 1, ax0)] (pc' := 85) (L' := [some (aR 1 0 47), some (aR 8 0 t), some (aT v2), some (aI v3), some (aI v4), none]) (stk' := [aR 8 0 t]) (σ' := σ) (g := []) (by decide +kernel) rfl rfl ?_
  obtain ⟨r3, σ2, h1, h⟩ := bnd_some h
  refine aw_cV (P' := pX8_draw) (idx := 15) (d' := 2) (c := 8) (n := 0) (k := t) [] [] (ov := (some (aI r3))) (stk2 := [aI r3]) okp_X8_draw (by decide +kernel) ml_RX1_15 vok_X8_draw (by decide) rfl nar_X8_draw (by decide) rfl (Nat.le_of_ble_eq_true rfl) (ok_X8_draw h1) rfl ?_
  refine aw_seq [(.aload_n 0, 1, ax0), (.aload_n 1, 1, ax0), (.aload_n 2, 1, ax0), (.iconst 1, 1, (axI 1)), (.iload_n 3, 1, ax0), (.iload 4, 2, ax0)] (pc' := 95) (L' := [some (aR 1 0 47), some (aR 8 0 t), some (aT v2), some (aI v3), some (aI v4), none]) (stk' := [aI v4, aI v3, aI 1, aT v2, aR 8 0 t, aR 1 0 47, aI r3]) (σ' := σ2) (g := []) (by decide +kernel) rfl rfl ?_
  obtain ⟨r6, σ5, h4, h⟩ := bnd_some h
  refine aw_cV (P' := pX1_rate) (idx := 61) (d' := 4) (c := 1) (n := 0) (k := 47) [aR 8 0 t, aT v2, aI 1, aI v3, aI v4] [aI r3] (ov := (some (aI r6))) (stk2 := [aI r6, aI r3]) okp_X1_rate (by decide +kernel) ml_RX1_61 vok_X1_rate (by decide) rfl nar_X1_rate (by decide) rfl (Nat.le_of_ble_eq_true rfl) (ok_X1_rate h4) rfl ?_
  refine aw_icmp_lt (off := 5) (tgt := 103) (by decide +kernel) (by decide) (fun c1 => ?_) (fun c1 => ?_)
  · rw [if_pos c1] at h
    obtain ⟨hg, h⟩ := grd_some h
    obtain ⟨σ7, e8, h⟩ := ltσ_some h
    refine aw_seq [(.aload_n 1, 1, ax0), (.getfield 70, 3, (axF 8 3 (2, 3, 13, some 8))), (.iload_n 3, 1, ax0), (.iconst 3, 1, (axI 3)), (.iastore, 1, ax0)] (pc' := 110) (L' := [some (aR 1 0 47), some (aR 8 0 t), some (aT v2), some (aI v3), some (aI v4), none]) (stk' := []) (σ' := σ7) (g := [inb v3 8]) (by decide +kernel) (by rw [e8]; rfl) hg ?_
    refine aw_seq [(.aload_n 1, 1, ax0), (.iload_n 3, 1, ax0), (.iconst 3, 1, (axI 3))] (pc' := 113) (L' := [some (aR 1 0 47), some (aR 8 0 t), some (aT v2), some (aI v3), some (aI v4), none]) (stk' := [aI 3, aI v3, aR 8 0 t]) (σ' := σ7) (g := []) (by decide +kernel) rfl rfl ?_
    obtain ⟨σ10, h9, h⟩ := bndV_some h
    refine aw_cV (P' := pX8_note) (idx := 36) (d' := 2) (c := 8) (n := 0) (k := t) [aI v3, aI 3] [] (ov := none) (stk2 := []) okp_X8_note (by decide +kernel) ml_RX1_36 vok_X8_note (by decide) rfl nar_X8_note (by decide) rfl (Nat.le_of_ble_eq_true rfl) (ok_X8_note h9) rfl ?_
    refine aw_seq [(.iconst 1, 1, (axI 1))] (pc' := 117) (L' := [some (aR 1 0 47), some (aR 8 0 t), some (aT v2), some (aI v3), some (aI v4), none]) (stk' := [aI 1]) (σ' := σ10) (g := []) (by decide +kernel) rfl rfl ?_
    cases h
    exact aw_zret rfl bz_1 (by decide +kernel)
  · rw [if_neg c1] at h
    refine aw_seq [(.iconst 0, 1, (axI 0))] (pc' := 102) (L' := [some (aR 1 0 47), some (aR 8 0 t), some (aT v2), some (aI v3), some (aI v4), none]) (stk' := [aI 0]) (σ' := σ5) (g := []) (by decide +kernel) rfl rfl ?_
    cases h
    exact aw_zret rfl bz_0 (by decide +kernel)
def f_X1_catches_57 (κ : Kd) (t : Nat)  (v2 : Option Nat) (v3 : Int32) (v4 : Int32) (σ : Sg) : Option (Int32 × Sg) :=
  grd (inb v3 8 && true) <|
  if (σ.1 (t + 3) (ix v3)) = 4 then (
    f_X1_catches_82 κ t σ
  ) else (
    if v4 = 0 then (
      grd (inb v3 8 && true) <|
      if (σ.1 (t + 3) (ix v3)) = 2 then (
        f_X1_catches_84 κ t v2 v3 v4 σ
      ) else (
        f_X1_catches_82 κ t σ
      )
    ) else (
      f_X1_catches_84 κ t v2 v3 v4 σ
    )
  )
set_option maxRecDepth 100000 in
set_option maxHeartbeats 4000000 in
theorem ok_X1_catches_57 {κ : Kd} {t : Nat}   : ∀ (v2 : Option Nat) (v3 : Int32) (v4 : Int32) (σ : Sg) (q : (Int32 × Sg)), f_X1_catches_57 κ t v2 v3 v4 σ = some q → AW κ pX1_catches 5 (some (aI q.1), q.2) 57 [some (aR 1 0 47), some (aR 8 0 t), some (aT v2), some (aI v3), some (aI v4), none] [] σ := by
  intro v2 v3 v4 σ q h
  unfold f_X1_catches_57 at h
  obtain ⟨hg, h⟩ := grd_some h
  refine aw_seq [(.aload_n 1, 1, ax0), (.getfield 70, 3, (axF 8 3 (2, 3, 13, some 8))), (.iload_n 3, 1, ax0), (.iaload, 1, ax0), (.iconst 4, 1, (axI 4))] (pc' := 64) (L' := [some (aR 1 0 47), some (aR 8 0 t), some (aT v2), some (aI v3), some (aI v4), none]) (stk' := [aI 4, aI (σ.1 (t + 3) (ix v3))]) (σ' := σ) (g := [inb v3 8]) (by decide +kernel) rfl hg ?_
  refine aw_icmp_eq (off := 18) (tgt := 82) (by decide +kernel) (by decide) (fun c1 => ?_) (fun c1 => ?_)
  · rw [if_pos c1] at h
    refine aw_forget (L' := [none, none, none, none, none, none]) (lsub_n (lsub_n (lsub_n (lsub_n (lsub_n (lsub_n (lsub_0))))))) ?_
    exact ok_X1_catches_82 σ _ h
  · rw [if_neg c1] at h
    refine aw_seq [(.iload 4, 2, ax0)] (pc' := 69) (L' := [some (aR 1 0 47), some (aR 8 0 t), some (aT v2), some (aI v3), some (aI v4), none]) (stk' := [aI v4]) (σ' := σ) (g := []) (by decide +kernel) rfl rfl ?_
    refine aw_if_ne (off := 15) (tgt := 84) (by decide +kernel) (by decide) (fun c1 => ?_) (fun c1 => ?_)
    · rw [if_neg c1] at h
      refine aw_forget (L' := [some (aR 1 0 47), some (aR 8 0 t), some (aT v2), some (aI v3), some (aI v4), none]) (lsub_s (lsub_s (lsub_s (lsub_s (lsub_s (lsub_n (lsub_0))))))) ?_
      exact ok_X1_catches_84 v2 v3 v4 σ _ h
    · rw [if_pos c1] at h
      obtain ⟨hg, h⟩ := grd_some h
      refine aw_seq [(.aload_n 1, 1, ax0), (.getfield 70, 3, (axF 8 3 (2, 3, 13, some 8))), (.iload_n 3, 1, ax0), (.iaload, 1, ax0), (.iconst 2, 1, (axI 2))] (pc' := 79) (L' := [some (aR 1 0 47), some (aR 8 0 t), some (aT v2), some (aI v3), some (aI v4), none]) (stk' := [aI 2, aI (σ.1 (t + 3) (ix v3))]) (σ' := σ) (g := [inb v3 8]) (by decide +kernel) rfl hg ?_
      refine aw_icmp_eq (off := 5) (tgt := 84) (by decide +kernel) (by decide) (fun c1 => ?_) (fun c1 => ?_)
      · rw [if_pos c1] at h
        refine aw_forget (L' := [some (aR 1 0 47), some (aR 8 0 t), some (aT v2), some (aI v3), some (aI v4), none]) (lsub_s (lsub_s (lsub_s (lsub_s (lsub_s (lsub_n (lsub_0))))))) ?_
        exact ok_X1_catches_84 v2 v3 v4 σ _ h
      · rw [if_neg c1] at h
        refine aw_forget (L' := [none, none, none, none, none, none]) (lsub_n (lsub_n (lsub_n (lsub_n (lsub_n (lsub_n (lsub_0))))))) ?_
        exact ok_X1_catches_82 σ _ h
def f_X1_catches (κ : Kd) (t : Nat) (r : Option Nat) (v3 : Int32) (v4 : Int32) (σ : Sg) : Option (Int32 × Sg) :=
  bnd (f_X8_keeps t v3 σ) fun r13 σ12 =>
  if r13 = 0 then (
    f_X1_catches_57 κ t r v3 v4 σ12
  ) else (
    grd (inb v3 8 && true) <|
    bnd (f_X1_rate κ t r 0 v3 v4 σ12) fun r16 σ15 =>
    grd (inb v3 8 && true) <|
    ltσ (wI σ15 (t + 4) (ix v3) (imax 0 ((σ12.1 (t + 4) (ix v3)) - r16))) fun σ17 =>
    if 0 < ((σ12.1 (t + 4) (ix v3)) - r16) then (
      f_X1_catches_57 κ t r v3 v4 σ17
    ) else (
      grd (inb v3 8 && true) <|
      ltσ (wI σ17 (t + 3) (ix v3) 0) fun σ19 =>
      bndV (f_X8_note t v3 2 σ19) fun σ22 =>
      f_X1_catches_57 κ t r v3 v4 σ22
    )
  )
set_option maxRecDepth 100000 in
set_option maxHeartbeats 4000000 in
theorem ok_X1_catches {κ : Kd} {t : Nat} {r : Option Nat} {v3 : Int32} {v4 : Int32} {σ : Sg} {q : (Int32 × Sg)} (h : f_X1_catches κ t r v3 v4 σ = some q) : AMet κ pX1_catches 5 [aR 1 0 47, aR 8 0 t, aT r, aI v3, aI v4] σ (some (aI q.1), q.2) := by
  unfold f_X1_catches at h
  refine amet_of okp_X1_catches [(false, aR 1 0 47), (false, aR 8 0 t), (false, aT r), (false, aI v3), (false, aI v4)] (List.forall_mem_cons.mpr ⟨rfl, List.forall_mem_cons.mpr ⟨rfl, List.forall_mem_cons.mpr ⟨isL_aT _, List.forall_mem_cons.mpr ⟨rfl, List.forall_mem_cons.mpr ⟨rfl, (fun _ hn => absurd hn List.not_mem_nil)⟩⟩⟩⟩⟩) 1 rfl ?_
  show AW κ pX1_catches 5 (some (aI q.1), q.2) 0 [some (aR 1 0 47), some (aR 8 0 t), some (aT r), some (aI v3), some (aI v4), none] [] σ
  refine aw_seq [(.aload_n 1, 1, ax0), (.iload_n 3, 1, ax0)] (pc' := 2) (L' := [some (aR 1 0 47), some (aR 8 0 t), some (aT r), some (aI v3), some (aI v4), none]) (stk' := [aI v3, aR 8 0 t]) (σ' := σ) (g := []) (by decide +kernel) rfl rfl ?_
  obtain ⟨r13, σ12, h11, h⟩ := bnd_some h
  refine aw_cV (P' := pX8_keeps) (idx := 52) (d' := 1) (c := 8) (n := 0) (k := t) [aI v3] [] (ov := (some (aI r13))) (stk2 := [aI r13]) okp_X8_keeps (by decide +kernel) ml_RX1_52 vok_X8_keeps (by decide) rfl nar_X8_keeps (by decide) rfl (Nat.le_of_ble_eq_true rfl) (ok_X8_keeps h11) rfl ?_
  refine aw_if_eq (off := 52) (tgt := 57) (by decide +kernel) (by decide) (fun c1 => ?_) (fun c1 => ?_)
  · rw [if_pos c1] at h
    refine aw_forget (L' := [some (aR 1 0 47), some (aR 8 0 t), some (aT r), some (aI v3), some (aI v4), none]) (lsub_s (lsub_s (lsub_s (lsub_s (lsub_s (lsub_n (lsub_0))))))) ?_
    exact ok_X1_catches_57 r v3 v4 σ12 _ h
  · rw [if_neg c1] at h
    obtain ⟨hg, h⟩ := grd_some h
    refine aw_seq [(.aload_n 1, 1, ax0), (.getfield 56, 3, (axF 8 4 (2, 4, 13, some 8))), (.iload_n 3, 1, ax0), (.iaload, 1, ax0), (.aload_n 0, 1, ax0), (.aload_n 1, 1, ax0), (.aload_n 2, 1, ax0), (.iconst 0, 1, (axI 0)), (.iload_n 3, 1, ax0), (.iload 4, 2, ax0)] (pc' := 21) (L' := [some (aR 1 0 47), some (aR 8 0 t), some (aT r), some (aI v3), some (aI v4), none]) (stk' := [aI v4, aI v3, aI 0, aT r, aR 8 0 t, aR 1 0 47, aI (σ12.1 (t + 4) (ix v3))]) (σ' := σ12) (g := [inb v3 8]) (by decide +kernel) rfl hg ?_
    obtain ⟨r16, σ15, h14, h⟩ := bnd_some h
    refine aw_cV (P' := pX1_rate) (idx := 61) (d' := 4) (c := 1) (n := 0) (k := 47) [aR 8 0 t, aT r, aI 0, aI v3, aI v4] [aI (σ12.1 (t + 4) (ix v3))] (ov := (some (aI r16))) (stk2 := [aI r16, aI (σ12.1 (t + 4) (ix v3))]) okp_X1_rate (by decide +kernel) ml_RX1_61 vok_X1_rate (by decide) rfl nar_X1_rate (by decide) rfl (Nat.le_of_ble_eq_true rfl) (ok_X1_rate h14) rfl ?_
    refine aw_seq [(.isub, 1, ax0), (.istore 5, 2, ax0), (.aload_n 1, 1, ax0), (.getfield 56, 3, (axF 8 4 (2, 4, 13, some 8))), (.iload_n 3, 1, ax0), (.iconst 0, 1, (axI 0)), (.iload 5, 2, ax0)] (pc' := 35) (L' := [some (aR 1 0 47), some (aR 8 0 t), some (aT r), some (aI v3), some (aI v4), some (aI ((σ12.1 (t + 4) (ix v3)) - r16))]) (stk' := [aI ((σ12.1 (t + 4) (ix v3)) - r16), aI 0, aI v3, aR 13 8 (t + 4)]) (σ' := σ15) (g := []) (by decide +kernel) rfl rfl ?_
    refine aw_imax (idx := 65) (by decide) (Nat.le_of_ble_eq_true rfl) jw_imax ml_RX1_65 (by decide +kernel) ?_
    obtain ⟨hg, h⟩ := grd_some h
    obtain ⟨σ17, e18, h⟩ := ltσ_some h
    refine aw_seq [(.iastore, 1, ax0)] (pc' := 39) (L' := [some (aR 1 0 47), some (aR 8 0 t), some (aT r), some (aI v3), some (aI v4), some (aI ((σ12.1 (t + 4) (ix v3)) - r16))]) (stk' := []) (σ' := σ17) (g := [inb v3 8]) (by decide +kernel) (by rw [e18]; rfl) hg ?_
    refine aw_seq [(.iload 5, 2, ax0)] (pc' := 41) (L' := [some (aR 1 0 47), some (aR 8 0 t), some (aT r), some (aI v3), some (aI v4), some (aI ((σ12.1 (t + 4) (ix v3)) - r16))]) (stk' := [aI ((σ12.1 (t + 4) (ix v3)) - r16)]) (σ' := σ17) (g := []) (by decide +kernel) rfl rfl ?_
    refine aw_if_gt (off := 16) (tgt := 57) (by decide +kernel) (by decide) (fun c1 => ?_) (fun c1 => ?_)
    · rw [if_pos c1] at h
      refine aw_forget (L' := [some (aR 1 0 47), some (aR 8 0 t), some (aT r), some (aI v3), some (aI v4), none]) (lsub_s (lsub_s (lsub_s (lsub_s (lsub_s (lsub_n (lsub_0))))))) ?_
      exact ok_X1_catches_57 r v3 v4 σ17 _ h
    · rw [if_neg c1] at h
      obtain ⟨hg, h⟩ := grd_some h
      obtain ⟨σ19, e20, h⟩ := ltσ_some h
      refine aw_seq [(.aload_n 1, 1, ax0), (.getfield 70, 3, (axF 8 3 (2, 3, 13, some 8))), (.iload_n 3, 1, ax0), (.iconst 0, 1, (axI 0)), (.iastore, 1, ax0)] (pc' := 51) (L' := [some (aR 1 0 47), some (aR 8 0 t), some (aT r), some (aI v3), some (aI v4), some (aI ((σ12.1 (t + 4) (ix v3)) - r16))]) (stk' := []) (σ' := σ19) (g := [inb v3 8]) (by decide +kernel) (by rw [e20]; rfl) hg ?_
      refine aw_seq [(.aload_n 1, 1, ax0), (.iload_n 3, 1, ax0), (.iconst 2, 1, (axI 2))] (pc' := 54) (L' := [some (aR 1 0 47), some (aR 8 0 t), some (aT r), some (aI v3), some (aI v4), some (aI ((σ12.1 (t + 4) (ix v3)) - r16))]) (stk' := [aI 2, aI v3, aR 8 0 t]) (σ' := σ19) (g := []) (by decide +kernel) rfl rfl ?_
      obtain ⟨σ22, h21, h⟩ := bndV_some h
      refine aw_cV (P' := pX8_note) (idx := 36) (d' := 2) (c := 8) (n := 0) (k := t) [aI v3, aI 2] [] (ov := none) (stk2 := []) okp_X8_note (by decide +kernel) ml_RX1_36 vok_X8_note (by decide) rfl nar_X8_note (by decide) rfl (Nat.le_of_ble_eq_true rfl) (ok_X8_note h21) rfl ?_
      refine aw_forget (L' := [some (aR 1 0 47), some (aR 8 0 t), some (aT r), some (aI v3), some (aI v4), none]) (lsub_s (lsub_s (lsub_s (lsub_s (lsub_s (lsub_n (lsub_0))))))) ?_
      exact ok_X1_catches_57 r v3 v4 σ22 _ h
def f_X1_pass_82 (κ : Kd) (t : Nat) (s : Nat) (rec_22 : Option Nat → Int32 → Int32 → Int32 → Sg → Option (Int32 × Sg)) (v3 : Option Nat) (v4 : Int32) (v5 : Int32) (v6 : Int32) (σ : Sg) : Option (Int32 × Sg) :=
  rec_22 v3 v4 v5 (v6 + 1) σ
set_option maxRecDepth 100000 in
set_option maxHeartbeats 4000000 in
theorem ok_X1_pass_82 {κ : Kd} {t : Nat} {s : Nat}  {rec_22 : Option Nat → Int32 → Int32 → Int32 → Sg → Option (Int32 × Sg)} (hrec_22 : ∀ (v3 : Option Nat) (v4 : Int32) (v5 : Int32) (v6 : Int32) (σ : Sg) (q : (Int32 × Sg)), rec_22 v3 v4 v5 v6 σ = some q → AW κ pX1_pass 6 (some (aI q.1), q.2) 22 [some (aR 1 0 47), some (aR 8 0 t), some (aR 5 0 s), some (aT v3), some (aI v4), some (aI v5), some (aI v6)] [] σ) : ∀ (v3 : Option Nat) (v4 : Int32) (v5 : Int32) (v6 : Int32) (σ : Sg) (q : (Int32 × Sg)), f_X1_pass_82 κ t s rec_22 v3 v4 v5 v6 σ = some q → AW κ pX1_pass 6 (some (aI q.1), q.2) 82 [some (aR 1 0 47), some (aR 8 0 t), some (aR 5 0 s), some (aT v3), some (aI v4), some (aI v5), some (aI v6)] [] σ := by
  intro v3 v4 v5 v6 σ q h
  unfold f_X1_pass_82 at h
  refine aw_seq [(.iinc 6 1, 3, (axI 1))] (pc' := 85) (L' := [some (aR 1 0 47), some (aR 8 0 t), some (aR 5 0 s), some (aT v3), some (aI v4), some (aI v5), some (aI (v6 + 1))]) (stk' := []) (σ' := σ) (g := []) (by decide +kernel) rfl rfl ?_
  refine aw_goto (off := (-63)) (tgt := 22) (by decide +kernel) (by decide) ?_
  refine aw_forget (L' := [some (aR 1 0 47), some (aR 8 0 t), some (aR 5 0 s), some (aT v3), some (aI v4), some (aI v5), some (aI (v6 + 1))]) (lsub_s (lsub_s (lsub_s (lsub_s (lsub_s (lsub_s (lsub_s (lsub_0)))))))) ?_
  exact hrec_22 v3 v4 v5 (v6 + 1) σ _ h
def f_X1_pass_22 (κ : Kd) (t : Nat) (s : Nat)  : Nat → Option Nat → Int32 → Int32 → Int32 → Sg → Option (Int32 × Sg)
  | 0, _, _, _, _, _ => none
  | fu + 1, v3, v4, v5, v6, σ =>
    if (σ.1 t 0) ≤ v6 then (
      ltσ (wI σ t 5 ((σ.1 t 5) + 1)) fun σ1 =>
      some (v5, σ1)
    ) else (
      if ((shr v4 v6) &&& 1) = 1 then (
        bndV (f_X8_set t v6 4 0 σ) fun σ10 =>
        bndV (f_X8_note t v6 4 σ10) fun σ12 =>
        f_X1_pass_82 κ t s (f_X1_pass_22 κ t s fu) v3 v4 v5 v6 σ12
      ) else (
        bnd (f_X5_near s v6 v4 σ) fun r5 σ4 =>
        bnd (f_X1_catches κ t v3 v6 r5 σ4) fun r8 σ7 =>
        if r8 = 0 then (
          f_X1_pass_82 κ t s (f_X1_pass_22 κ t s fu) v3 v4 v5 v6 σ7
        ) else (
          f_X1_pass_82 κ t s (f_X1_pass_22 κ t s fu) v3 v4 (v5 + 1) v6 σ7
        )
      )
    )
set_option maxRecDepth 100000 in
set_option maxHeartbeats 4000000 in
theorem ok_X1_pass_22 {κ : Kd} {t : Nat} {s : Nat}   : ∀ (fu : Nat) (v3 : Option Nat) (v4 : Int32) (v5 : Int32) (v6 : Int32) (σ : Sg) (q : (Int32 × Sg)), f_X1_pass_22 κ t s fu v3 v4 v5 v6 σ = some q → AW κ pX1_pass 6 (some (aI q.1), q.2) 22 [some (aR 1 0 47), some (aR 8 0 t), some (aR 5 0 s), some (aT v3), some (aI v4), some (aI v5), some (aI v6)] [] σ := by
  intro fu
  induction fu with
  | zero =>
    intro v3 v4 v5 v6 σ q h
    unfold f_X1_pass_22 at h
    cases h
  | succ fu ih =>
    intro v3 v4 v5 v6 σ q h
    unfold f_X1_pass_22 at h
    refine aw_seq [(.iload 6, 2, ax0), (.aload_n 1, 1, ax0), (.getfield 29, 3, (axF 8 0 (0, 0, 0, none)))] (pc' := 28) (L' := [some (aR 1 0 47), some (aR 8 0 t), some (aR 5 0 s), some (aT v3), some (aI v4), some (aI v5), some (aI v6)]) (stk' := [aI (σ.1 t 0), aI v6]) (σ' := σ) (g := []) (by decide +kernel) rfl rfl ?_
    refine aw_icmp_ge (off := 60) (tgt := 88) (by decide +kernel) (by decide) (fun c1 => ?_) (fun c1 => ?_)
    · rw [if_pos c1] at h
      obtain ⟨σ1, e2, h⟩ := ltσ_some h
      refine aw_seq [(.aload_n 1, 1, ax0), (.dup, 1, ax0), (.getfield 49, 3, (axF 8 5 (0, 0, 0, none))), (.iconst 1, 1, (axI 1)), (.iadd, 1, ax0), (.putfield 49, 3, (axF 8 5 (0, 0, 0, none)))] (pc' := 98) (L' := [some (aR 1 0 47), some (aR 8 0 t), some (aR 5 0 s), some (aT v3), some (aI v4), some (aI v5), some (aI v6)]) (stk' := []) (σ' := σ1) (g := []) (by decide +kernel) (by rw [e2]; rfl) rfl ?_
      refine aw_seq [(.iload 5, 2, ax0)] (pc' := 100) (L' := [some (aR 1 0 47), some (aR 8 0 t), some (aR 5 0 s), some (aT v3), some (aI v4), some (aI v5), some (aI v6)]) (stk' := [aI v5]) (σ' := σ1) (g := []) (by decide +kernel) rfl rfl ?_
      cases h
      exact aw_iret rfl (by decide +kernel)
    · rw [if_neg c1] at h
      refine aw_seq [(.iload 4, 2, ax0), (.iload 6, 2, ax0), (.ishr, 1, ax0), (.iconst 1, 1, (axI 1)), (.iand, 1, ax0), (.iconst 1, 1, (axI 1))] (pc' := 39) (L' := [some (aR 1 0 47), some (aR 8 0 t), some (aR 5 0 s), some (aT v3), some (aI v4), some (aI v5), some (aI v6)]) (stk' := [aI 1, aI ((shr v4 v6) &&& 1)]) (σ' := σ) (g := []) (by decide +kernel) rfl rfl ?_
      refine aw_icmp_ne (off := 21) (tgt := 60) (by decide +kernel) (by decide) (fun c1 => ?_) (fun c1 => ?_)
      · rw [if_neg c1] at h
        refine aw_seq [(.aload_n 0, 1, ax0), (.aload_n 1, 1, ax0), (.aload_n 3, 1, ax0), (.iload 6, 2, ax0), (.aload_n 2, 1, ax0), (.iload 6, 2, ax0), (.iload 4, 2, ax0)] (pc' := 70) (L' := [some (aR 1 0 47), some (aR 8 0 t), some (aR 5 0 s), some (aT v3), some (aI v4), some (aI v5), some (aI v6)]) (stk' := [aI v4, aI v6, aR 5 0 s, aI v6, aT v3, aR 8 0 t, aR 1 0 47]) (σ' := σ) (g := []) (by decide +kernel) rfl rfl ?_
        obtain ⟨r5, σ4, h3, h⟩ := bnd_some h
        refine aw_cV (P' := pX5_near) (idx := 40) (d' := 2) (c := 5) (n := 0) (k := s) [aI v6, aI v4] [aI v6, aT v3, aR 8 0 t, aR 1 0 47] (ov := (some (aI r5))) (stk2 := [aI r5, aI v6, aT v3, aR 8 0 t, aR 1 0 47]) okp_X5_near (by decide +kernel) ml_RX1_40 vok_X5_near (by decide) rfl nar_X5_near (by decide) rfl (Nat.le_of_ble_eq_true rfl) (ok_X5_near h3) rfl ?_
        obtain ⟨r8, σ7, h6, h⟩ := bnd_some h
        refine aw_cV (P' := pX1_catches) (idx := 45) (d' := 5) (c := 1) (n := 0) (k := 47) [aR 8 0 t, aT v3, aI v6, aI r5] [] (ov := (some (aI r8))) (stk2 := [aI r8]) okp_X1_catches (by decide +kernel) ml_RX1_45 vok_X1_catches (by decide) rfl nar_X1_catches (by decide) rfl (Nat.le_of_ble_eq_true rfl) (ok_X1_catches h6) rfl ?_
        refine aw_if_eq (off := 6) (tgt := 82) (by decide +kernel) (by decide) (fun c1 => ?_) (fun c1 => ?_)
        · rw [if_pos c1] at h
          refine aw_forget (L' := [some (aR 1 0 47), some (aR 8 0 t), some (aR 5 0 s), some (aT v3), some (aI v4), some (aI v5), some (aI v6)]) (lsub_s (lsub_s (lsub_s (lsub_s (lsub_s (lsub_s (lsub_s (lsub_0)))))))) ?_
          exact ok_X1_pass_82 ih v3 v4 v5 v6 σ7 _ h
        · rw [if_neg c1] at h
          refine aw_seq [(.iinc 5 1, 3, (axI 1))] (pc' := 82) (L' := [some (aR 1 0 47), some (aR 8 0 t), some (aR 5 0 s), some (aT v3), some (aI v4), some (aI (v5 + 1)), some (aI v6)]) (stk' := []) (σ' := σ7) (g := []) (by decide +kernel) rfl rfl ?_
          refine aw_forget (L' := [some (aR 1 0 47), some (aR 8 0 t), some (aR 5 0 s), some (aT v3), some (aI v4), some (aI (v5 + 1)), some (aI v6)]) (lsub_s (lsub_s (lsub_s (lsub_s (lsub_s (lsub_s (lsub_s (lsub_0)))))))) ?_
          exact ok_X1_pass_82 ih v3 v4 (v5 + 1) v6 σ7 _ h
      · rw [if_pos c1] at h
        refine aw_seq [(.aload_n 1, 1, ax0), (.iload 6, 2, ax0), (.iconst 4, 1, (axI 4)), (.iconst 0, 1, (axI 0))] (pc' := 47) (L' := [some (aR 1 0 47), some (aR 8 0 t), some (aR 5 0 s), some (aT v3), some (aI v4), some (aI v5), some (aI v6)]) (stk' := [aI 0, aI 4, aI v6, aR 8 0 t]) (σ' := σ) (g := []) (by decide +kernel) rfl rfl ?_
        obtain ⟨σ10, h9, h⟩ := bndV_some h
        refine aw_cV (P' := pX8_set) (idx := 32) (d' := 1) (c := 8) (n := 0) (k := t) [aI v6, aI 4, aI 0] [] (ov := none) (stk2 := []) okp_X8_set (by decide +kernel) ml_RX1_32 vok_X8_set (by decide) rfl nar_X8_set (by decide) rfl (Nat.le_of_ble_eq_true rfl) (ok_X8_set h9) rfl ?_
        refine aw_seq [(.aload_n 1, 1, ax0), (.iload 6, 2, ax0), (.iconst 4, 1, (axI 4))] (pc' := 54) (L' := [some (aR 1 0 47), some (aR 8 0 t), some (aR 5 0 s), some (aT v3), some (aI v4), some (aI v5), some (aI v6)]) (stk' := [aI 4, aI v6, aR 8 0 t]) (σ' := σ10) (g := []) (by decide +kernel) rfl rfl ?_
        obtain ⟨σ12, h11, h⟩ := bndV_some h
        refine aw_cV (P' := pX8_note) (idx := 36) (d' := 2) (c := 8) (n := 0) (k := t) [aI v6, aI 4] [] (ov := none) (stk2 := []) okp_X8_note (by decide +kernel) ml_RX1_36 vok_X8_note (by decide) rfl nar_X8_note (by decide) rfl (Nat.le_of_ble_eq_true rfl) (ok_X8_note h11) rfl ?_
        refine aw_goto (off := 25) (tgt := 82) (by decide +kernel) (by decide) ?_
        refine aw_forget (L' := [some (aR 1 0 47), some (aR 8 0 t), some (aR 5 0 s), some (aT v3), some (aI v4), some (aI v5), some (aI v6)]) (lsub_s (lsub_s (lsub_s (lsub_s (lsub_s (lsub_s (lsub_s (lsub_0)))))))) ?_
        exact ok_X1_pass_82 ih v3 v4 v5 v6 σ12 _ h
def f_X1_pass (κ : Kd) (t : Nat) (s : Nat) (r : Option Nat) (σ : Sg) : Option (Int32 × Sg) :=
  bnd (f_X8_draw t σ) fun r15 σ14 =>
  ltσ (wI σ14 t 6 r15) fun σ16 =>
  bnd (f_X8_housesBy t 3 3 σ16) fun r20 σ19 =>
  f_X1_pass_22 κ t s FU r r20 0 0 σ19
set_option maxRecDepth 100000 in
set_option maxHeartbeats 4000000 in
theorem ok_X1_pass {κ : Kd} {t : Nat} {s : Nat} {r : Option Nat} {σ : Sg} {q : (Int32 × Sg)} (h : f_X1_pass κ t s r σ = some q) : AMet κ pX1_pass 6 [aR 1 0 47, aR 8 0 t, aR 5 0 s, aT r] σ (some (aI q.1), q.2) := by
  unfold f_X1_pass at h
  refine amet_of okp_X1_pass [(false, aR 1 0 47), (false, aR 8 0 t), (false, aR 5 0 s), (false, aT r)] (List.forall_mem_cons.mpr ⟨rfl, List.forall_mem_cons.mpr ⟨rfl, List.forall_mem_cons.mpr ⟨rfl, List.forall_mem_cons.mpr ⟨isL_aT _, (fun _ hn => absurd hn List.not_mem_nil)⟩⟩⟩⟩) 3 rfl ?_
  show AW κ pX1_pass 6 (some (aI q.1), q.2) 0 [some (aR 1 0 47), some (aR 8 0 t), some (aR 5 0 s), some (aT r), none, none, none] [] σ
  refine aw_seq [(.aload_n 1, 1, ax0), (.aload_n 1, 1, ax0)] (pc' := 2) (L' := [some (aR 1 0 47), some (aR 8 0 t), some (aR 5 0 s), some (aT r), none, none, none]) (stk' := [aR 8 0 t, aR 8 0 t]) (σ' := σ) (g := []) (by decide +kernel) rfl rfl ?_
  obtain ⟨r15, σ14, h13, h⟩ := bnd_some h
  refine aw_cV (P' := pX8_draw) (idx := 15) (d' := 2) (c := 8) (n := 0) (k := t) [] [aR 8 0 t] (ov := (some (aI r15))) (stk2 := [aI r15, aR 8 0 t]) okp_X8_draw (by decide +kernel) ml_RX1_15 vok_X8_draw (by decide) rfl nar_X8_draw (by decide) rfl (Nat.le_of_ble_eq_true rfl) (ok_X8_draw h13) rfl ?_
  obtain ⟨σ16, e17, h⟩ := ltσ_some h
  refine aw_seq [(.putfield 21, 3, (axF 8 6 (0, 0, 0, none)))] (pc' := 8) (L' := [some (aR 1 0 47), some (aR 8 0 t), some (aR 5 0 s), some (aT r), none, none, none]) (stk' := []) (σ' := σ16) (g := []) (by decide +kernel) (by rw [e17]; rfl) rfl ?_
  refine aw_seq [(.aload_n 1, 1, ax0), (.iconst 3, 1, (axI 3)), (.iconst 3, 1, (axI 3))] (pc' := 11) (L' := [some (aR 1 0 47), some (aR 8 0 t), some (aR 5 0 s), some (aT r), none, none, none]) (stk' := [aI 3, aI 3, aR 8 0 t]) (σ' := σ16) (g := []) (by decide +kernel) rfl rfl ?_
  obtain ⟨r20, σ19, h18, h⟩ := bnd_some h
  refine aw_cV (P' := pX8_housesBy) (idx := 25) (d' := 1) (c := 8) (n := 0) (k := t) [aI 3, aI 3] [] (ov := (some (aI r20))) (stk2 := [aI r20]) okp_X8_housesBy (by decide +kernel) ml_RX1_25 vok_X8_housesBy (by decide) rfl nar_X8_housesBy (by decide) rfl (Nat.le_of_ble_eq_true rfl) (ok_X8_housesBy h18) rfl ?_
  refine aw_seq [(.istore 4, 2, ax0), (.iconst 0, 1, (axI 0)), (.istore 5, 2, ax0), (.iconst 0, 1, (axI 0)), (.istore 6, 2, ax0)] (pc' := 22) (L' := [some (aR 1 0 47), some (aR 8 0 t), some (aR 5 0 s), some (aT r), some (aI r20), some (aI 0), some (aI 0)]) (stk' := []) (σ' := σ19) (g := []) (by decide +kernel) rfl rfl ?_
  refine aw_forget (L' := [some (aR 1 0 47), some (aR 8 0 t), some (aR 5 0 s), some (aT r), some (aI r20), some (aI 0), some (aI 0)]) (lsub_s (lsub_s (lsub_s (lsub_s (lsub_s (lsub_s (lsub_s (lsub_0)))))))) ?_
  exact ok_X1_pass_22 FU r r20 0 0 σ19 _ h
