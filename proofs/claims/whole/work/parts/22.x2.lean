/-! printed by wip/whole/gen4.py from the class file: passHours, hour, kind, number, carriedOut, clauseCount, played, actOfDraw, befallByDraw, winters, restore, takeBack, undo, rateToday, rateNow, of, is, hourOf, houseOf, whatOf, book, copyFrom, foretold -/
def f_X11_passHours_79 (κ : Kd)  (v2 : Int32) (σ : Sg) : Option (Int32 × Sg) :=
  some (v2, σ)
set_option maxRecDepth 100000 in
set_option maxHeartbeats 4000000 in
theorem ok_X11_passHours_79 {κ : Kd}    : ∀ (v2 : Int32) (σ : Sg) (q : (Int32 × Sg)), f_X11_passHours_79 κ v2 σ = some q → AW κ pX11_passHours 7 (some (aI q.1), q.2) 79 [none, none, some (aI v2), none] [] σ := by
  intro v2 σ q h
  unfold f_X11_passHours_79 at h
  refine aw_seq [(.iload_n 2, 1, ax0)] (pc' := 80) (L' := [none, none, some (aI v2), none]) (stk' := [aI v2]) (σ' := σ) (g := []) (by decide +kernel) rfl rfl ?_
  cases h
  exact aw_iret rfl (by decide +kernel)
def f_X11_passHours_4 (κ : Kd)  : Nat → Int32 → Int32 → Int32 → Sg → Option (Int32 × Sg)
  | 0, _, _, _, _ => none
  | fu + 1, v1, v2, v3, σ =>
    if v1 ≤ v3 then (
      f_X11_passHours_79 κ v2 σ
    ) else (
      if 9999 ≤ (σ.1 2 5) then (
        f_X11_passHours_79 κ v2 σ
      ) else (
        bndV (f_X4_keep 11 2 σ) fun σ2 =>
        bnd (f_X10_rule 1 σ2) fun r5 σ4 =>
        bnd (f_X1_pass κ 2 8 r5 σ4) fun r8 σ7 =>
        (f_X11_passHours_4 κ fu) v1 (v2 + r8) (v3 + 1) σ7
      )
    )
set_option maxRecDepth 100000 in
set_option maxHeartbeats 4000000 in
theorem ok_X11_passHours_4 {κ : Kd}    : ∀ (fu : Nat) (v1 : Int32) (v2 : Int32) (v3 : Int32) (σ : Sg) (q : (Int32 × Sg)), f_X11_passHours_4 κ fu v1 v2 v3 σ = some q → AW κ pX11_passHours 7 (some (aI q.1), q.2) 4 [some (aR 11 0 0), some (aI v1), some (aI v2), some (aI v3)] [] σ := by
  intro fu
  induction fu with
  | zero =>
    intro v1 v2 v3 σ q h
    unfold f_X11_passHours_4 at h
    cases h
  | succ fu ih =>
    intro v1 v2 v3 σ q h
    unfold f_X11_passHours_4 at h
    refine aw_seq [(.iload_n 3, 1, ax0), (.iload_n 1, 1, ax0)] (pc' := 6) (L' := [some (aR 11 0 0), some (aI v1), some (aI v2), some (aI v3)]) (stk' := [aI v1, aI v3]) (σ' := σ) (g := []) (by decide +kernel) rfl rfl ?_
    refine aw_icmp_ge (off := 73) (tgt := 79) (by decide +kernel) (by decide) (fun c1 => ?_) (fun c1 => ?_)
    · rw [if_pos c1] at h
      refine aw_forget (L' := [none, none, some (aI v2), none]) (lsub_n (lsub_n (lsub_s (lsub_n (lsub_0))))) ?_
      exact ok_X11_passHours_79 v2 σ _ h
    · rw [if_neg c1] at h
      refine aw_seq [(.aload_n 0, 1, ax0), (.getfield 10, 3, (axF 11 0 (2, 1, 10, some 0))), (.getfield 68, 3, (axF 10 0 (2, 1, 8, some 0))), (.getfield 151, 3, (axF 8 5 (0, 0, 0, none))), (.sipush 9999, 3, (axI 9999))] (pc' := 22) (L' := [some (aR 11 0 0), some (aI v1), some (aI v2), some (aI v3)]) (stk' := [aI 9999, aI (σ.1 2 5)]) (σ' := σ) (g := []) (by decide +kernel) rfl rfl ?_
      refine aw_icmp_ge (off := 57) (tgt := 79) (by decide +kernel) (by decide) (fun c1 => ?_) (fun c1 => ?_)
      · rw [if_pos c1] at h
        refine aw_forget (L' := [none, none, some (aI v2), none]) (lsub_n (lsub_n (lsub_s (lsub_n (lsub_0))))) ?_
        exact ok_X11_passHours_79 v2 σ _ h
      · rw [if_neg c1] at h
        refine aw_seq [(.aload_n 0, 1, ax0), (.getfield 10, 3, (axF 11 0 (2, 1, 10, some 0))), (.getfield 133, 3, (axF 10 2 (2, 10, 4, some 0))), (.aload_n 0, 1, ax0), (.getfield 10, 3, (axF 11 0 (2, 1, 10, some 0))), (.getfield 68, 3, (axF 10 0 (2, 1, 8, some 0)))] (pc' := 39) (L' := [some (aR 11 0 0), some (aI v1), some (aI v2), some (aI v3)]) (stk' := [aR 8 0 2, aR 4 0 11]) (σ' := σ) (g := []) (by decide +kernel) rfl rfl ?_
        obtain ⟨σ2, h1, h⟩ := bndV_some h
        refine aw_cV (P' := pX4_keep) (idx := 137) (d' := 3) (c := 4) (n := 0) (k := 11) [aR 8 0 2] [] (ov := none) (stk2 := []) okp_X4_keep (by decide +kernel) ml_RX11_137 vok_X4_keep (by decide) rfl nar_X4_keep (by decide) rfl (Nat.le_of_ble_eq_true rfl) (ok_X4_keep h1) rfl ?_
        refine aw_seq [(.iload_n 2, 1, ax0), (.aload_n 0, 1, ax0), (.getfield 29, 3, (axF 11 3 (2, 47, 1, some 0))), (.aload_n 0, 1, ax0), (.getfield 10, 3, (axF 11 0 (2, 1, 10, some 0))), (.getfield 68, 3, (axF 10 0 (2, 1, 8, some 0))), (.aload_n 0, 1, ax0), (.getfield 10, 3, (axF 11 0 (2, 1, 10, some 0))), (.getfield 83, 3, (axF 10 1 (2, 7, 5, some 0))), (.aload_n 0, 1, ax0), (.getfield 10, 3, (axF 11 0 (2, 1, 10, some 0)))] (pc' := 65) (L' := [some (aR 11 0 0), some (aI v1), some (aI v2), some (aI v3)]) (stk' := [aR 10 0 1, aR 5 0 8, aR 8 0 2, aR 1 0 47, aI v2]) (σ' := σ2) (g := []) (by decide +kernel) rfl rfl ?_
        obtain ⟨r5, σ4, h3, h⟩ := bnd_some h
        refine aw_cV (P' := pX10_rule) (idx := 143) (d' := 3) (c := 10) (n := 0) (k := 1) [] [aR 5 0 8, aR 8 0 2, aR 1 0 47, aI v2] (ov := (some (aT r5))) (stk2 := [aT r5, aR 5 0 8, aR 8 0 2, aR 1 0 47, aI v2]) okp_X10_rule (by decide +kernel) ml_RX11_143 vok_X10_rule (by decide) rfl nar_X10_rule (by decide) rfl (Nat.le_of_ble_eq_true rfl) (ok_X10_rule h3) rfl ?_
        obtain ⟨r8, σ7, h6, h⟩ := bnd_some h
        refine aw_cV (P' := pX1_pass) (idx := 237) (d' := 6) (c := 1) (n := 0) (k := 47) [aR 8 0 2, aR 5 0 8, aT r5] [aI v2] (ov := (some (aI r8))) (stk2 := [aI r8, aI v2]) okp_X1_pass (by decide +kernel) ml_RX11_237 vok_X1_pass (by decide) rfl nar_X1_pass (by decide) rfl (Nat.le_of_ble_eq_true rfl) (ok_X1_pass h6) rfl ?_
        refine aw_seq [(.iadd, 1, ax0), (.istore_n 2, 1, ax0), (.iinc 3 1, 3, (axI 1))] (pc' := 76) (L' := [some (aR 11 0 0), some (aI v1), some (aI (v2 + r8)), some (aI (v3 + 1))]) (stk' := []) (σ' := σ7) (g := []) (by decide +kernel) rfl rfl ?_
        refine aw_goto (off := (-72)) (tgt := 4) (by decide +kernel) (by decide) ?_
        refine aw_forget (L' := [some (aR 11 0 0), some (aI v1), some (aI (v2 + r8)), some (aI (v3 + 1))]) (lsub_s (lsub_s (lsub_s (lsub_s (lsub_0))))) ?_
        exact ih v1 (v2 + r8) (v3 + 1) σ7 _ h
def f_X11_passHours (κ : Kd) (v1 : Int32) (σ : Sg) : Option (Int32 × Sg) :=
  f_X11_passHours_4 κ FU v1 0 0 σ
set_option maxRecDepth 100000 in
set_option maxHeartbeats 4000000 in
theorem ok_X11_passHours {κ : Kd} {v1 : Int32} {σ : Sg} {q : (Int32 × Sg)} (h : f_X11_passHours κ v1 σ = some q) : AMet κ pX11_passHours 7 [aR 11 0 0, aI v1] σ (some (aI q.1), q.2) := by
  unfold f_X11_passHours at h
  refine amet_of okp_X11_passHours [(false, aR 11 0 0), (false, aI v1)] (List.forall_mem_cons.mpr ⟨rfl, List.forall_mem_cons.mpr ⟨rfl, (fun _ hn => absurd hn List.not_mem_nil)⟩⟩) 2 rfl ?_
  show AW κ pX11_passHours 7 (some (aI q.1), q.2) 0 [some (aR 11 0 0), some (aI v1), none, none] [] σ
  refine aw_seq [(.iconst 0, 1, (axI 0)), (.istore_n 2, 1, ax0), (.iconst 0, 1, (axI 0)), (.istore_n 3, 1, ax0)] (pc' := 4) (L' := [some (aR 11 0 0), some (aI v1), some (aI 0), some (aI 0)]) (stk' := []) (σ' := σ) (g := []) (by decide +kernel) rfl rfl ?_
  refine aw_forget (L' := [some (aR 11 0 0), some (aI v1), some (aI 0), some (aI 0)]) (lsub_s (lsub_s (lsub_s (lsub_s (lsub_0))))) ?_
  exact ok_X11_passHours_4 FU v1 0 0 σ _ h
def f_X11_hour_28 (κ : Kd)   (σ : Sg) : Option (Int32 × Sg) :=
  some ((-1), σ)
set_option maxRecDepth 100000 in
set_option maxHeartbeats 4000000 in
theorem ok_X11_hour_28 {κ : Kd}    : ∀  (σ : Sg) (q : (Int32 × Sg)), f_X11_hour_28 κ  σ = some q → AW κ pX11_hour 8 (some (aI q.1), q.2) 28 [none, none] [] σ := by
  intro  σ q h
  unfold f_X11_hour_28 at h
  refine aw_seq [(.iconst (-1), 1, (axI (-1)))] (pc' := 29) (L' := [none, none]) (stk' := [aI (-1)]) (σ' := σ) (g := []) (by decide +kernel) rfl rfl ?_
  cases h
  exact aw_iret rfl (by decide +kernel)
def f_X11_hour (κ : Kd) (v1 : Int32) (σ : Sg) : Option (Int32 × Sg) :=
  bnd (f_X11_within v1 1 60 σ) fun r3 σ2 =>
  if r3 = 0 then (
    f_X11_hour_28 κ σ2
  ) else (
    if v1 ≤ (9999 - (σ2.1 2 5)) then (
      bnd (f_X11_passHours κ v1 σ2) fun r6 σ5 =>
      some (r6, σ5)
    ) else (
      f_X11_hour_28 κ σ2
    )
  )
set_option maxRecDepth 100000 in
set_option maxHeartbeats 4000000 in
theorem ok_X11_hour {κ : Kd} {v1 : Int32} {σ : Sg} {q : (Int32 × Sg)} (h : f_X11_hour κ v1 σ = some q) : AMet κ pX11_hour 8 [aR 11 0 0, aI v1] σ (some (aI q.1), q.2) := by
  unfold f_X11_hour at h
  refine amet_of okp_X11_hour [(false, aR 11 0 0), (false, aI v1)] (List.forall_mem_cons.mpr ⟨rfl, List.forall_mem_cons.mpr ⟨rfl, (fun _ hn => absurd hn List.not_mem_nil)⟩⟩) 0 rfl ?_
  show AW κ pX11_hour 8 (some (aI q.1), q.2) 0 [some (aR 11 0 0), some (aI v1)] [] σ
  refine aw_seq [(.iload_n 1, 1, ax0), (.iconst 1, 1, (axI 1)), (.bipush 60, 2, (axI 60))] (pc' := 4) (L' := [some (aR 11 0 0), some (aI v1)]) (stk' := [aI 60, aI 1, aI v1]) (σ' := σ) (g := []) (by decide +kernel) rfl rfl ?_
  obtain ⟨r3, σ2, h1, h⟩ := bnd_some h
  refine aw_cS (P' := pX11_within) (idx := 79) (d' := 1) [aI v1, aI 1, aI 60] [] (ov := (some (aI r3))) (stk2 := [aI r3]) okp_X11_within (by decide +kernel) ml_RX11_79 tok_X11_within nar_X11_within (by decide) rfl (Nat.le_of_ble_eq_true rfl) (ok_X11_within h1) rfl ?_
  refine aw_if_eq (off := 21) (tgt := 28) (by decide +kernel) (by decide) (fun c1 => ?_) (fun c1 => ?_)
  · rw [if_pos c1] at h
    refine aw_forget (L' := [none, none]) (lsub_n (lsub_n (lsub_0))) ?_
    exact ok_X11_hour_28 σ2 _ h
  · rw [if_neg c1] at h
    refine aw_seq [(.iload_n 1, 1, ax0), (.sipush 9999, 3, (axI 9999)), (.aload_n 0, 1, ax0), (.getfield 10, 3, (axF 11 0 (2, 1, 10, some 0))), (.getfield 68, 3, (axF 10 0 (2, 1, 8, some 0))), (.getfield 151, 3, (axF 8 5 (0, 0, 0, none))), (.isub, 1, ax0)] (pc' := 25) (L' := [some (aR 11 0 0), some (aI v1)]) (stk' := [aI (9999 - (σ2.1 2 5)), aI v1]) (σ' := σ2) (g := []) (by decide +kernel) rfl rfl ?_
    refine aw_icmp_le (off := 5) (tgt := 30) (by decide +kernel) (by decide) (fun c1 => ?_) (fun c1 => ?_)
    · rw [if_pos c1] at h
      refine aw_seq [(.aload_n 0, 1, ax0), (.iload_n 1, 1, ax0)] (pc' := 32) (L' := [some (aR 11 0 0), some (aI v1)]) (stk' := [aI v1, aR 11 0 0]) (σ' := σ2) (g := []) (by decide +kernel) rfl rfl ?_
      obtain ⟨r6, σ5, h4, h⟩ := bnd_some h
      refine aw_cV (P' := pX11_passHours) (idx := 154) (d' := 7) (c := 11) (n := 0) (k := 0) [aI v1] [] (ov := (some (aI r6))) (stk2 := [aI r6]) okp_X11_passHours (by decide +kernel) ml_RX11_154 vok_X11_passHours (by decide) rfl nar_X11_passHours (by decide) rfl (Nat.le_of_ble_eq_true rfl) (ok_X11_passHours h4) rfl ?_
      cases h
      exact aw_iret rfl (by decide +kernel)
    · rw [if_neg c1] at h
      refine aw_forget (L' := [none, none]) (lsub_n (lsub_n (lsub_0))) ?_
      exact ok_X11_hour_28 σ2 _ h
def f_X6_kind_27 (κ : Kd) (x : Nat)  (s0 : Int32) (σ : Sg) : Option (Int32 × Sg) :=
  some (s0, σ)
set_option maxRecDepth 100000 in
set_option maxHeartbeats 4000000 in
theorem ok_X6_kind_27 {κ : Kd} {x : Nat}   : ∀ (s0 : Int32) (σ : Sg) (q : (Int32 × Sg)), f_X6_kind_27 κ x s0 σ = some q → AW κ pX6_kind 1 (some (aI q.1), q.2) 27 [none, none] [aI s0] σ := by
  intro s0 σ q h
  unfold f_X6_kind_27 at h
  cases h
  exact aw_iret rfl (by decide +kernel)
def f_X6_kind_26 (κ : Kd) (x : Nat)   (σ : Sg) : Option (Int32 × Sg) :=
  f_X6_kind_27 κ x (-1) σ
set_option maxRecDepth 100000 in
set_option maxHeartbeats 4000000 in
theorem ok_X6_kind_26 {κ : Kd} {x : Nat}   : ∀  (σ : Sg) (q : (Int32 × Sg)), f_X6_kind_26 κ x  σ = some q → AW κ pX6_kind 1 (some (aI q.1), q.2) 26 [none, none] [] σ := by
  intro  σ q h
  unfold f_X6_kind_26 at h
  refine aw_seq [(.iconst (-1), 1, (axI (-1)))] (pc' := 27) (L' := [none, none]) (stk' := [aI (-1)]) (σ' := σ) (g := []) (by decide +kernel) rfl rfl ?_
  refine aw_forget (L' := [none, none]) (lsub_n (lsub_n (lsub_0))) ?_
  exact ok_X6_kind_27 (-1) σ _ h
def f_X6_kind (κ : Kd) (x : Nat) (v1 : Int32) (σ : Sg) : Option (Int32 × Sg) :=
  if v1 < 0 then (
    f_X6_kind_26 κ x σ
  ) else (
    grd ((!decide ((4 : Int32) = 0)) && true) <|
    if ((Int32.ofNat (lenOf κ (x + 1))) / 4) ≤ v1 then (
      f_X6_kind_26 κ x σ
    ) else (
      grd (inb (v1 * 4) (lenOf κ (x + 1)) && true) <|
      f_X6_kind_27 κ x (σ.1 (x + 1) (ix (v1 * 4))) σ
    )
  )
set_option maxRecDepth 100000 in
set_option maxHeartbeats 4000000 in
theorem ok_X6_kind {κ : Kd} {x : Nat} {v1 : Int32} {σ : Sg} {q : (Int32 × Sg)} (h : f_X6_kind κ x v1 σ = some q) : AMet κ pX6_kind 1 [aR 6 0 x, aI v1] σ (some (aI q.1), q.2) := by
  unfold f_X6_kind at h
  refine amet_of okp_X6_kind [(false, aR 6 0 x), (false, aI v1)] (List.forall_mem_cons.mpr ⟨rfl, List.forall_mem_cons.mpr ⟨rfl, (fun _ hn => absurd hn List.not_mem_nil)⟩⟩) 0 rfl ?_
  show AW κ pX6_kind 1 (some (aI q.1), q.2) 0 [some (aR 6 0 x), some (aI v1)] [] σ
  refine aw_seq [(.iload_n 1, 1, ax0)] (pc' := 1) (L' := [some (aR 6 0 x), some (aI v1)]) (stk' := [aI v1]) (σ' := σ) (g := []) (by decide +kernel) rfl rfl ?_
  refine aw_if_lt (off := 25) (tgt := 26) (by decide +kernel) (by decide) (fun c1 => ?_) (fun c1 => ?_)
  · rw [if_pos c1] at h
    refine aw_forget (L' := [none, none]) (lsub_n (lsub_n (lsub_0))) ?_
    exact ok_X6_kind_26 σ _ h
  · rw [if_neg c1] at h
    obtain ⟨hg, h⟩ := grd_some h
    refine aw_seq [(.iload_n 1, 1, ax0), (.aload_n 0, 1, ax0), (.getfield 9, 3, (axF 6 0 (2, 1, 13, none))), (.arraylength, 1, ax0), (.iconst 4, 1, (axI 4)), (.idiv, 1, ax0)] (pc' := 12) (L' := [some (aR 6 0 x), some (aI v1)]) (stk' := [aI ((Int32.ofNat (lenOf κ (x + 1))) / 4), aI v1]) (σ' := σ) (g := [(!decide ((4 : Int32) = 0))]) (by decide +kernel) rfl hg ?_
    refine aw_icmp_ge (off := 14) (tgt := 26) (by decide +kernel) (by decide) (fun c1 => ?_) (fun c1 => ?_)
    · rw [if_pos c1] at h
      refine aw_forget (L' := [none, none]) (lsub_n (lsub_n (lsub_0))) ?_
      exact ok_X6_kind_26 σ _ h
    · rw [if_neg c1] at h
      obtain ⟨hg, h⟩ := grd_some h
      refine aw_seq [(.aload_n 0, 1, ax0), (.getfield 9, 3, (axF 6 0 (2, 1, 13, none))), (.iload_n 1, 1, ax0), (.iconst 4, 1, (axI 4)), (.imul, 1, ax0), (.iaload, 1, ax0)] (pc' := 23) (L' := [some (aR 6 0 x), some (aI v1)]) (stk' := [aI (σ.1 (x + 1) (ix (v1 * 4)))]) (σ' := σ) (g := [inb (v1 * 4) (lenOf κ (x + 1))]) (by decide +kernel) rfl hg ?_
      refine aw_goto (off := 4) (tgt := 27) (by decide +kernel) (by decide) ?_
      refine aw_forget (L' := [none, none]) (lsub_n (lsub_n (lsub_0))) ?_
      exact ok_X6_kind_27 (σ.1 (x + 1) (ix (v1 * 4))) σ _ h
def f_X6_number_50 (κ : Kd) (x : Nat)  (s0 : Int32) (σ : Sg) : Option (Int32 × Sg) :=
  some (s0, σ)
set_option maxRecDepth 100000 in
set_option maxHeartbeats 4000000 in
theorem ok_X6_number_50 {κ : Kd} {x : Nat}   : ∀ (s0 : Int32) (σ : Sg) (q : (Int32 × Sg)), f_X6_number_50 κ x s0 σ = some q → AW κ pX6_number 1 (some (aI q.1), q.2) 50 [none, none, none, none] [aI s0] σ := by
  intro s0 σ q h
  unfold f_X6_number_50 at h
  cases h
  exact aw_iret rfl (by decide +kernel)
def f_X6_number_29 (κ : Kd) (x : Nat)  (v1 : Int32) (v2 : Int32) (s0 : Int32) (σ : Sg) : Option (Int32 × Sg) :=
  if s0 = 0 then (
    f_X6_number_50 κ x (-1) σ
  ) else (
    grd (inb (((v1 * 4) + 1) + v2) (lenOf κ (x + 1)) && true) <|
    f_X6_number_50 κ x (σ.1 (x + 1) (ix (((v1 * 4) + 1) + v2))) σ
  )
set_option maxRecDepth 100000 in
set_option maxHeartbeats 4000000 in
theorem ok_X6_number_29 {κ : Kd} {x : Nat}   : ∀ (v1 : Int32) (v2 : Int32) (s0 : Int32) (σ : Sg) (q : (Int32 × Sg)), f_X6_number_29 κ x v1 v2 s0 σ = some q → AW κ pX6_number 1 (some (aI q.1), q.2) 29 [some (aR 6 0 x), some (aI v1), some (aI v2), none] [aI s0] σ := by
  intro v1 v2 s0 σ q h
  unfold f_X6_number_29 at h
  refine aw_seq [(.istore_n 3, 1, ax0), (.iload_n 3, 1, ax0)] (pc' := 31) (L' := [some (aR 6 0 x), some (aI v1), some (aI v2), some (aI s0)]) (stk' := [aI s0]) (σ' := σ) (g := []) (by decide +kernel) rfl rfl ?_
  refine aw_if_eq (off := 18) (tgt := 49) (by decide +kernel) (by decide) (fun c1 => ?_) (fun c1 => ?_)
  · rw [if_pos c1] at h
    refine aw_seq [(.iconst (-1), 1, (axI (-1)))] (pc' := 50) (L' := [some (aR 6 0 x), some (aI v1), some (aI v2), some (aI s0)]) (stk' := [aI (-1)]) (σ' := σ) (g := []) (by decide +kernel) rfl rfl ?_
    refine aw_forget (L' := [none, none, none, none]) (lsub_n (lsub_n (lsub_n (lsub_n (lsub_0))))) ?_
    exact ok_X6_number_50 (-1) σ _ h
  · rw [if_neg c1] at h
    obtain ⟨hg, h⟩ := grd_some h
    refine aw_seq [(.aload_n 0, 1, ax0), (.getfield 9, 3, (axF 6 0 (2, 1, 13, none))), (.iload_n 1, 1, ax0), (.iconst 4, 1, (axI 4)), (.imul, 1, ax0), (.iconst 1, 1, (axI 1)), (.iadd, 1, ax0), (.iload_n 2, 1, ax0), (.iadd, 1, ax0), (.iaload, 1, ax0)] (pc' := 46) (L' := [some (aR 6 0 x), some (aI v1), some (aI v2), some (aI s0)]) (stk' := [aI (σ.1 (x + 1) (ix (((v1 * 4) + 1) + v2)))]) (σ' := σ) (g := [inb (((v1 * 4) + 1) + v2) (lenOf κ (x + 1))]) (by decide +kernel) rfl hg ?_
    refine aw_goto (off := 4) (tgt := 50) (by decide +kernel) (by decide) ?_
    refine aw_forget (L' := [none, none, none, none]) (lsub_n (lsub_n (lsub_n (lsub_n (lsub_0))))) ?_
    exact ok_X6_number_50 (σ.1 (x + 1) (ix (((v1 * 4) + 1) + v2))) σ _ h
def f_X6_number_28 (κ : Kd) (x : Nat)  (v1 : Int32) (v2 : Int32) (σ : Sg) : Option (Int32 × Sg) :=
  f_X6_number_29 κ x v1 v2 0 σ
set_option maxRecDepth 100000 in
set_option maxHeartbeats 4000000 in
theorem ok_X6_number_28 {κ : Kd} {x : Nat}   : ∀ (v1 : Int32) (v2 : Int32) (σ : Sg) (q : (Int32 × Sg)), f_X6_number_28 κ x v1 v2 σ = some q → AW κ pX6_number 1 (some (aI q.1), q.2) 28 [some (aR 6 0 x), some (aI v1), some (aI v2), none] [] σ := by
  intro v1 v2 σ q h
  unfold f_X6_number_28 at h
  refine aw_seq [(.iconst 0, 1, (axI 0))] (pc' := 29) (L' := [some (aR 6 0 x), some (aI v1), some (aI v2), none]) (stk' := [aI 0]) (σ' := σ) (g := []) (by decide +kernel) rfl rfl ?_
  refine aw_forget (L' := [some (aR 6 0 x), some (aI v1), some (aI v2), none]) (lsub_s (lsub_s (lsub_s (lsub_n (lsub_0))))) ?_
  exact ok_X6_number_29 v1 v2 0 σ _ h
def f_X6_number (κ : Kd) (x : Nat) (v1 : Int32) (v2 : Int32) (σ : Sg) : Option (Int32 × Sg) :=
  if v1 < 0 then (
    f_X6_number_28 κ x v1 v2 σ
  ) else (
    grd ((!decide ((4 : Int32) = 0)) && true) <|
    if ((Int32.ofNat (lenOf κ (x + 1))) / 4) ≤ v1 then (
      f_X6_number_28 κ x v1 v2 σ
    ) else (
      if v2 < 0 then (
        f_X6_number_28 κ x v1 v2 σ
      ) else (
        if 3 ≤ v2 then (
          f_X6_number_28 κ x v1 v2 σ
        ) else (
          f_X6_number_29 κ x v1 v2 1 σ
        )
      )
    )
  )
set_option maxRecDepth 100000 in
set_option maxHeartbeats 4000000 in
theorem ok_X6_number {κ : Kd} {x : Nat} {v1 : Int32} {v2 : Int32} {σ : Sg} {q : (Int32 × Sg)} (h : f_X6_number κ x v1 v2 σ = some q) : AMet κ pX6_number 1 [aR 6 0 x, aI v1, aI v2] σ (some (aI q.1), q.2) := by
  unfold f_X6_number at h
  refine amet_of okp_X6_number [(false, aR 6 0 x), (false, aI v1), (false, aI v2)] (List.forall_mem_cons.mpr ⟨rfl, List.forall_mem_cons.mpr ⟨rfl, List.forall_mem_cons.mpr ⟨rfl, (fun _ hn => absurd hn List.not_mem_nil)⟩⟩⟩) 1 rfl ?_
  show AW κ pX6_number 1 (some (aI q.1), q.2) 0 [some (aR 6 0 x), some (aI v1), some (aI v2), none] [] σ
  refine aw_seq [(.iload_n 1, 1, ax0)] (pc' := 1) (L' := [some (aR 6 0 x), some (aI v1), some (aI v2), none]) (stk' := [aI v1]) (σ' := σ) (g := []) (by decide +kernel) rfl rfl ?_
  refine aw_if_lt (off := 27) (tgt := 28) (by decide +kernel) (by decide) (fun c1 => ?_) (fun c1 => ?_)
  · rw [if_pos c1] at h
    refine aw_forget (L' := [some (aR 6 0 x), some (aI v1), some (aI v2), none]) (lsub_s (lsub_s (lsub_s (lsub_n (lsub_0))))) ?_
    exact ok_X6_number_28 v1 v2 σ _ h
  · rw [if_neg c1] at h
    obtain ⟨hg, h⟩ := grd_some h
    refine aw_seq [(.iload_n 1, 1, ax0), (.aload_n 0, 1, ax0), (.getfield 9, 3, (axF 6 0 (2, 1, 13, none))), (.arraylength, 1, ax0), (.iconst 4, 1, (axI 4)), (.idiv, 1, ax0)] (pc' := 12) (L' := [some (aR 6 0 x), some (aI v1), some (aI v2), none]) (stk' := [aI ((Int32.ofNat (lenOf κ (x + 1))) / 4), aI v1]) (σ' := σ) (g := [(!decide ((4 : Int32) = 0))]) (by decide +kernel) rfl hg ?_
    refine aw_icmp_ge (off := 16) (tgt := 28) (by decide +kernel) (by decide) (fun c1 => ?_) (fun c1 => ?_)
    · rw [if_pos c1] at h
      refine aw_forget (L' := [some (aR 6 0 x), some (aI v1), some (aI v2), none]) (lsub_s (lsub_s (lsub_s (lsub_n (lsub_0))))) ?_
      exact ok_X6_number_28 v1 v2 σ _ h
    · rw [if_neg c1] at h
      refine aw_seq [(.iload_n 2, 1, ax0)] (pc' := 16) (L' := [some (aR 6 0 x), some (aI v1), some (aI v2), none]) (stk' := [aI v2]) (σ' := σ) (g := []) (by decide +kernel) rfl rfl ?_
      refine aw_if_lt (off := 12) (tgt := 28) (by decide +kernel) (by decide) (fun c1 => ?_) (fun c1 => ?_)
      · rw [if_pos c1] at h
        refine aw_forget (L' := [some (aR 6 0 x), some (aI v1), some (aI v2), none]) (lsub_s (lsub_s (lsub_s (lsub_n (lsub_0))))) ?_
        exact ok_X6_number_28 v1 v2 σ _ h
      · rw [if_neg c1] at h
        refine aw_seq [(.iload_n 2, 1, ax0), (.iconst 3, 1, (axI 3))] (pc' := 21) (L' := [some (aR 6 0 x), some (aI v1), some (aI v2), none]) (stk' := [aI 3, aI v2]) (σ' := σ) (g := []) (by decide +kernel) rfl rfl ?_
        refine aw_icmp_ge (off := 7) (tgt := 28) (by decide +kernel) (by decide) (fun c1 => ?_) (fun c1 => ?_)
        · rw [if_pos c1] at h
          refine aw_forget (L' := [some (aR 6 0 x), some (aI v1), some (aI v2), none]) (lsub_s (lsub_s (lsub_s (lsub_n (lsub_0))))) ?_
          exact ok_X6_number_28 v1 v2 σ _ h
        · rw [if_neg c1] at h
          refine aw_seq [(.iconst 1, 1, (axI 1))] (pc' := 25) (L' := [some (aR 6 0 x), some (aI v1), some (aI v2), none]) (stk' := [aI 1]) (σ' := σ) (g := []) (by decide +kernel) rfl rfl ?_
          refine aw_goto (off := 4) (tgt := 29) (by decide +kernel) (by decide) ?_
          refine aw_forget (L' := [some (aR 6 0 x), some (aI v1), some (aI v2), none]) (lsub_s (lsub_s (lsub_s (lsub_n (lsub_0))))) ?_
          exact ok_X6_number_29 v1 v2 1 σ _ h
def f_X11_carriedOut_84 (κ : Kd) (x : Nat)   (σ : Sg) : Option (Int32 × Sg) :=
  some (1, σ)
set_option maxRecDepth 100000 in
set_option maxHeartbeats 4000000 in
theorem ok_X11_carriedOut_84 {κ : Kd} {x : Nat}   : ∀  (σ : Sg) (q : (Int32 × Sg)), f_X11_carriedOut_84 κ x  σ = some q → AW κ pX11_carriedOut 7 (some (aI q.1), q.2) 84 [none, none, none, none, none, none] [] σ := by
  intro  σ q h
  unfold f_X11_carriedOut_84 at h
  refine aw_seq [(.iconst 1, 1, (axI 1))] (pc' := 85) (L' := [none, none, none, none, none, none]) (stk' := [aI 1]) (σ' := σ) (g := []) (by decide +kernel) rfl rfl ?_
  cases h
  exact aw_zret rfl bz_1 (by decide +kernel)
def f_X11_carriedOut_102 (κ : Kd) (x : Nat)  (s0 : Int32) (σ : Sg) : Option (Int32 × Sg) :=
  grd (bz s0) <| some (s0, σ)
set_option maxRecDepth 100000 in
set_option maxHeartbeats 4000000 in
theorem ok_X11_carriedOut_102 {κ : Kd} {x : Nat}   : ∀ (s0 : Int32) (σ : Sg) (q : (Int32 × Sg)), f_X11_carriedOut_102 κ x s0 σ = some q → AW κ pX11_carriedOut 7 (some (aI q.1), q.2) 102 [none, none, none, none, none, none] [aI s0] σ := by
  intro s0 σ q h
  unfold f_X11_carriedOut_102 at h
  obtain ⟨hg, h⟩ := grd_some h
  cases h
  exact aw_zret rfl hg (by decide +kernel)
def f_X11_carriedOut_133 (κ : Kd) (x : Nat)  (v3 : Int32) (v4 : Int32) (v5 : Int32) (σ : Sg) : Option (Int32 × Sg) :=
  bnd (f_X11_tried v5 v3 v4 σ) fun r3 σ2 =>
  grd (bz r3) <| some (r3, σ2)
set_option maxRecDepth 100000 in
set_option maxHeartbeats 4000000 in
theorem ok_X11_carriedOut_133 {κ : Kd} {x : Nat}   : ∀ (v3 : Int32) (v4 : Int32) (v5 : Int32) (σ : Sg) (q : (Int32 × Sg)), f_X11_carriedOut_133 κ x v3 v4 v5 σ = some q → AW κ pX11_carriedOut 7 (some (aI q.1), q.2) 133 [some (aR 11 0 0), none, none, some (aI v3), some (aI v4), some (aI v5)] [] σ := by
  intro v3 v4 v5 σ q h
  unfold f_X11_carriedOut_133 at h
  refine aw_seq [(.aload_n 0, 1, ax0), (.iload 5, 2, ax0), (.iload_n 3, 1, ax0), (.iload 4, 2, ax0)] (pc' := 139) (L' := [some (aR 11 0 0), none, none, some (aI v3), some (aI v4), some (aI v5)]) (stk' := [aI v4, aI v3, aI v5, aR 11 0 0]) (σ' := σ) (g := []) (by decide +kernel) rfl rfl ?_
  obtain ⟨r3, σ2, h1, h⟩ := bnd_some h
  refine aw_cV (P' := pX11_tried) (idx := 127) (d' := 4) (c := 11) (n := 0) (k := 0) [aI v5, aI v3, aI v4] [] (ov := (some (aI r3))) (stk2 := [aI r3]) okp_X11_tried (by decide +kernel) ml_RX11_127 vok_X11_tried (by decide) rfl nar_X11_tried (by decide) rfl (Nat.le_of_ble_eq_true rfl) (ok_X11_tried h1) rfl ?_
  obtain ⟨hg, h⟩ := grd_some h
  cases h
  exact aw_zret rfl hg (by decide +kernel)
def f_X11_carriedOut_132 (κ : Kd) (x : Nat)  (s0 : Int32) (σ : Sg) : Option (Int32 × Sg) :=
  grd (bz s0) <| some (s0, σ)
set_option maxRecDepth 100000 in
set_option maxHeartbeats 4000000 in
theorem ok_X11_carriedOut_132 {κ : Kd} {x : Nat}   : ∀ (s0 : Int32) (σ : Sg) (q : (Int32 × Sg)), f_X11_carriedOut_132 κ x s0 σ = some q → AW κ pX11_carriedOut 7 (some (aI q.1), q.2) 132 [none, none, none, none, none, none] [aI s0] σ := by
  intro s0 σ q h
  unfold f_X11_carriedOut_132 at h
  obtain ⟨hg, h⟩ := grd_some h
  cases h
  exact aw_zret rfl hg (by decide +kernel)
def f_X11_carriedOut (κ : Kd) (x : Nat) (v2 : Int32) (σ : Sg) : Option (Int32 × Sg) :=
  bnd (f_X6_number κ x v2 0 σ) fun r6 σ5 =>
  bnd (f_X6_number κ x v2 1 σ5) fun r9 σ8 =>
  bnd (f_X6_kind κ x v2 σ8) fun r12 σ11 =>
  if r12 = 0 then (
    f_X11_carriedOut_84 κ x σ11
  ) else (
  if r12 = 1 then (
    f_X11_carriedOut_84 κ x σ11
  ) else (
  if r12 = 2 then (
    f_X11_carriedOut_84 κ x σ11
  ) else (
  if r12 = 3 then (
    bnd (f_X11_house r6 r9 σ11) fun r15 σ14 =>
    if r15 = (-1) then (
      f_X11_carriedOut_102 κ x 0 σ14
    ) else (
      f_X11_carriedOut_102 κ x 1 σ14
    )
  ) else (
  if r12 = 4 then (
    bnd (f_X6_number κ x v2 2 σ11) fun r18 σ17 =>
    bnd (f_X11_street r6 r9 r18 σ17) fun r21 σ20 =>
    grd (bz r21) <| some (r21, σ20)
  ) else (
  if r12 = 5 then (
    f_X11_carriedOut_133 κ x r6 r9 r12 σ11
  ) else (
  if r12 = 6 then (
    f_X11_carriedOut_133 κ x r6 r9 r12 σ11
  ) else (
  if r12 = 7 then (
    f_X11_carriedOut_133 κ x r6 r9 r12 σ11
  ) else (
  if r12 = 8 then (
    f_X11_carriedOut_133 κ x r6 r9 r12 σ11
  ) else (
  if r12 = 9 then (
    f_X11_carriedOut_133 κ x r6 r9 r12 σ11
  ) else (
  if r12 = 10 then (
    bnd (f_X11_warden κ r6 σ11) fun r24 σ23 =>
    if r24 = (-2) then (
      f_X11_carriedOut_132 κ x 0 σ23
    ) else (
      f_X11_carriedOut_132 κ x 1 σ23
    )
  ) else (
    f_X11_carriedOut_133 κ x r6 r9 r12 σ11
  )))))))))))
set_option maxRecDepth 100000 in
set_option maxHeartbeats 4000000 in
theorem ok_X11_carriedOut {κ : Kd} {x : Nat} {v2 : Int32} {σ : Sg} {q : (Int32 × Sg)} (h : f_X11_carriedOut κ x v2 σ = some q) : AMet κ pX11_carriedOut 7 [aR 11 0 0, aR 6 0 x, aI v2] σ (some (aI q.1), q.2) := by
  unfold f_X11_carriedOut at h
  refine amet_of okp_X11_carriedOut [(false, aR 11 0 0), (false, aR 6 0 x), (false, aI v2)] (List.forall_mem_cons.mpr ⟨rfl, List.forall_mem_cons.mpr ⟨rfl, List.forall_mem_cons.mpr ⟨rfl, (fun _ hn => absurd hn List.not_mem_nil)⟩⟩⟩) 3 rfl ?_
  show AW κ pX11_carriedOut 7 (some (aI q.1), q.2) 0 [some (aR 11 0 0), some (aR 6 0 x), some (aI v2), none, none, none] [] σ
  refine aw_seq [(.aload_n 1, 1, ax0), (.iload_n 2, 1, ax0), (.iconst 0, 1, (axI 0))] (pc' := 3) (L' := [some (aR 11 0 0), some (aR 6 0 x), some (aI v2), none, none, none]) (stk' := [aI 0, aI v2, aR 6 0 x]) (σ' := σ) (g := []) (by decide +kernel) rfl rfl ?_
  obtain ⟨r6, σ5, h4, h⟩ := bnd_some h
  refine aw_cV (P' := pX6_number) (idx := 171) (d' := 1) (c := 6) (n := 0) (k := x) [aI v2, aI 0] [] (ov := (some (aI r6))) (stk2 := [aI r6]) okp_X6_number (by decide +kernel) ml_RX11_171 vok_X6_number (by decide) rfl nar_X6_number (by decide) rfl (Nat.le_of_ble_eq_true rfl) (ok_X6_number h4) rfl ?_
  refine aw_seq [(.istore_n 3, 1, ax0), (.aload_n 1, 1, ax0), (.iload_n 2, 1, ax0), (.iconst 1, 1, (axI 1))] (pc' := 10) (L' := [some (aR 11 0 0), some (aR 6 0 x), some (aI v2), some (aI r6), none, none]) (stk' := [aI 1, aI v2, aR 6 0 x]) (σ' := σ5) (g := []) (by decide +kernel) rfl rfl ?_
  obtain ⟨r9, σ8, h7, h⟩ := bnd_some h
  refine aw_cV (P' := pX6_number) (idx := 171) (d' := 1) (c := 6) (n := 0) (k := x) [aI v2, aI 1] [] (ov := (some (aI r9))) (stk2 := [aI r9]) okp_X6_number (by decide +kernel) ml_RX11_171 vok_X6_number (by decide) rfl nar_X6_number (by decide) rfl (Nat.le_of_ble_eq_true rfl) (ok_X6_number h7) rfl ?_
  refine aw_seq [(.istore 4, 2, ax0), (.aload_n 1, 1, ax0), (.iload_n 2, 1, ax0)] (pc' := 17) (L' := [some (aR 11 0 0), some (aR 6 0 x), some (aI v2), some (aI r6), some (aI r9), none]) (stk' := [aI v2, aR 6 0 x]) (σ' := σ8) (g := []) (by decide +kernel) rfl rfl ?_
  obtain ⟨r12, σ11, h10, h⟩ := bnd_some h
  refine aw_cV (P' := pX6_kind) (idx := 168) (d' := 1) (c := 6) (n := 0) (k := x) [aI v2] [] (ov := (some (aI r12))) (stk2 := [aI r12]) okp_X6_kind (by decide +kernel) ml_RX11_168 vok_X6_kind (by decide) rfl nar_X6_kind (by decide) rfl (Nat.le_of_ble_eq_true rfl) (ok_X6_kind h10) rfl ?_
  refine aw_seq [(.istore 5, 2, ax0), (.iload 5, 2, ax0)] (pc' := 24) (L' := [some (aR 11 0 0), some (aR 6 0 x), some (aI v2), some (aI r6), some (aI r9), some (aI r12)]) (stk' := [aI r12]) (σ' := σ11) (g := []) (by decide +kernel) rfl rfl ?_
  refine aw_table (dflt := 109) (lo := 0) (hi := 10) (offs := #[60, 60, 60, 62, 79, 109, 109, 109, 109, 109, 93]) (len := 60) (dt := 133) (by decide +kernel) [(0, 84), (1, 84), (2, 84), (3, 86), (4, 103), (5, 133), (6, 133), (7, 133), (8, 133), (9, 133), (10, 117)] (by decide +kernel) ?_
  refine awsw_cons (fun c1 => ?_) (fun c1 => ?_)
  · rw [if_pos c1] at h
    refine aw_forget (L' := [none, none, none, none, none, none]) (lsub_n (lsub_n (lsub_n (lsub_n (lsub_n (lsub_n (lsub_0))))))) ?_
    exact ok_X11_carriedOut_84 σ11 _ h
  rw [if_neg c1] at h
  refine awsw_cons (fun c1 => ?_) (fun c1 => ?_)
  · rw [if_pos c1] at h
    refine aw_forget (L' := [none, none, none, none, none, none]) (lsub_n (lsub_n (lsub_n (lsub_n (lsub_n (lsub_n (lsub_0))))))) ?_
    exact ok_X11_carriedOut_84 σ11 _ h
  rw [if_neg c1] at h
  refine awsw_cons (fun c1 => ?_) (fun c1 => ?_)
  · rw [if_pos c1] at h
    refine aw_forget (L' := [none, none, none, none, none, none]) (lsub_n (lsub_n (lsub_n (lsub_n (lsub_n (lsub_n (lsub_0))))))) ?_
    exact ok_X11_carriedOut_84 σ11 _ h
  rw [if_neg c1] at h
  refine awsw_cons (fun c1 => ?_) (fun c1 => ?_)
  · rw [if_pos c1] at h
    refine aw_seq [(.aload_n 0, 1, ax0), (.iload_n 3, 1, ax0), (.iload 4, 2, ax0)] (pc' := 90) (L' := [some (aR 11 0 0), some (aR 6 0 x), some (aI v2), some (aI r6), some (aI r9), some (aI r12)]) (stk' := [aI r9, aI r6, aR 11 0 0]) (σ' := σ11) (g := []) (by decide +kernel) rfl rfl ?_
    obtain ⟨r15, σ14, h13, h⟩ := bnd_some h
    refine aw_cV (P' := pX11_house) (idx := 355) (d' := 3) (c := 11) (n := 0) (k := 0) [aI r6, aI r9] [] (ov := (some (aI r15))) (stk2 := [aI r15]) okp_X11_house (by decide +kernel) ml_RX11_355 vok_X11_house (by decide) rfl nar_X11_house (by decide) rfl (Nat.le_of_ble_eq_true rfl) (ok_X11_house h13) rfl ?_
    refine aw_seq [(.iconst (-1), 1, (axI (-1)))] (pc' := 94) (L' := [some (aR 11 0 0), some (aR 6 0 x), some (aI v2), some (aI r6), some (aI r9), some (aI r12)]) (stk' := [aI (-1), aI r15]) (σ' := σ14) (g := []) (by decide +kernel) rfl rfl ?_
    refine aw_icmp_eq (off := 7) (tgt := 101) (by decide +kernel) (by decide) (fun c1 => ?_) (fun c1 => ?_)
    · rw [if_pos c1] at h
      refine aw_seq [(.iconst 0, 1, (axI 0))] (pc' := 102) (L' := [some (aR 11 0 0), some (aR 6 0 x), some (aI v2), some (aI r6), some (aI r9), some (aI r12)]) (stk' := [aI 0]) (σ' := σ14) (g := []) (by decide +kernel) rfl rfl ?_
      refine aw_forget (L' := [none, none, none, none, none, none]) (lsub_n (lsub_n (lsub_n (lsub_n (lsub_n (lsub_n (lsub_0))))))) ?_
      exact ok_X11_carriedOut_102 0 σ14 _ h
    · rw [if_neg c1] at h
      refine aw_seq [(.iconst 1, 1, (axI 1))] (pc' := 98) (L' := [some (aR 11 0 0), some (aR 6 0 x), some (aI v2), some (aI r6), some (aI r9), some (aI r12)]) (stk' := [aI 1]) (σ' := σ14) (g := []) (by decide +kernel) rfl rfl ?_
      refine aw_goto (off := 4) (tgt := 102) (by decide +kernel) (by decide) ?_
      refine aw_forget (L' := [none, none, none, none, none, none]) (lsub_n (lsub_n (lsub_n (lsub_n (lsub_n (lsub_n (lsub_0))))))) ?_
      exact ok_X11_carriedOut_102 1 σ14 _ h
  rw [if_neg c1] at h
  refine awsw_cons (fun c1 => ?_) (fun c1 => ?_)
  · rw [if_pos c1] at h
    refine aw_seq [(.aload_n 0, 1, ax0), (.iload_n 3, 1, ax0), (.iload 4, 2, ax0), (.aload_n 1, 1, ax0), (.iload_n 2, 1, ax0), (.iconst 2, 1, (axI 2))] (pc' := 110) (L' := [some (aR 11 0 0), some (aR 6 0 x), some (aI v2), some (aI r6), some (aI r9), some (aI r12)]) (stk' := [aI 2, aI v2, aR 6 0 x, aI r9, aI r6, aR 11 0 0]) (σ' := σ11) (g := []) (by decide +kernel) rfl rfl ?_
    obtain ⟨r18, σ17, h16, h⟩ := bnd_some h
    refine aw_cV (P' := pX6_number) (idx := 171) (d' := 1) (c := 6) (n := 0) (k := x) [aI v2, aI 2] [aI r9, aI r6, aR 11 0 0] (ov := (some (aI r18))) (stk2 := [aI r18, aI r9, aI r6, aR 11 0 0]) okp_X6_number (by decide +kernel) ml_RX11_171 vok_X6_number (by decide) rfl nar_X6_number (by decide) rfl (Nat.le_of_ble_eq_true rfl) (ok_X6_number h16) rfl ?_
    obtain ⟨r21, σ20, h19, h⟩ := bnd_some h
    refine aw_cV (P' := pX11_street) (idx := 358) (d' := 2) (c := 11) (n := 0) (k := 0) [aI r6, aI r9, aI r18] [] (ov := (some (aI r21))) (stk2 := [aI r21]) okp_X11_street (by decide +kernel) ml_RX11_358 vok_X11_street (by decide) rfl nar_X11_street (by decide) rfl (Nat.le_of_ble_eq_true rfl) (ok_X11_street h19) rfl ?_
    obtain ⟨hg, h⟩ := grd_some h
    cases h
    exact aw_zret rfl hg (by decide +kernel)
  rw [if_neg c1] at h
  refine awsw_cons (fun c1 => ?_) (fun c1 => ?_)
  · rw [if_pos c1] at h
    refine aw_forget (L' := [some (aR 11 0 0), none, none, some (aI r6), some (aI r9), some (aI r12)]) (lsub_s (lsub_n (lsub_n (lsub_s (lsub_s (lsub_s (lsub_0))))))) ?_
    exact ok_X11_carriedOut_133 r6 r9 r12 σ11 _ h
  rw [if_neg c1] at h
  refine awsw_cons (fun c1 => ?_) (fun c1 => ?_)
  · rw [if_pos c1] at h
    refine aw_forget (L' := [some (aR 11 0 0), none, none, some (aI r6), some (aI r9), some (aI r12)]) (lsub_s (lsub_n (lsub_n (lsub_s (lsub_s (lsub_s (lsub_0))))))) ?_
    exact ok_X11_carriedOut_133 r6 r9 r12 σ11 _ h
  rw [if_neg c1] at h
  refine awsw_cons (fun c1 => ?_) (fun c1 => ?_)
  · rw [if_pos c1] at h
    refine aw_forget (L' := [some (aR 11 0 0), none, none, some (aI r6), some (aI r9), some (aI r12)]) (lsub_s (lsub_n (lsub_n (lsub_s (lsub_s (lsub_s (lsub_0))))))) ?_
    exact ok_X11_carriedOut_133 r6 r9 r12 σ11 _ h
  rw [if_neg c1] at h
  refine awsw_cons (fun c1 => ?_) (fun c1 => ?_)
  · rw [if_pos c1] at h
    refine aw_forget (L' := [some (aR 11 0 0), none, none, some (aI r6), some (aI r9), some (aI r12)]) (lsub_s (lsub_n (lsub_n (lsub_s (lsub_s (lsub_s (lsub_0))))))) ?_
    exact ok_X11_carriedOut_133 r6 r9 r12 σ11 _ h
  rw [if_neg c1] at h
  refine awsw_cons (fun c1 => ?_) (fun c1 => ?_)
  · rw [if_pos c1] at h
    refine aw_forget (L' := [some (aR 11 0 0), none, none, some (aI r6), some (aI r9), some (aI r12)]) (lsub_s (lsub_n (lsub_n (lsub_s (lsub_s (lsub_s (lsub_0))))))) ?_
    exact ok_X11_carriedOut_133 r6 r9 r12 σ11 _ h
  rw [if_neg c1] at h
  refine awsw_cons (fun c1 => ?_) (fun c1 => ?_)
  · rw [if_pos c1] at h
    refine aw_seq [(.aload_n 0, 1, ax0), (.iload_n 3, 1, ax0)] (pc' := 119) (L' := [some (aR 11 0 0), some (aR 6 0 x), some (aI v2), some (aI r6), some (aI r9), some (aI r12)]) (stk' := [aI r6, aR 11 0 0]) (σ' := σ11) (g := []) (by decide +kernel) rfl rfl ?_
    obtain ⟨r24, σ23, h22, h⟩ := bnd_some h
    refine aw_cV (P' := pX11_warden) (idx := 361) (d' := 6) (c := 11) (n := 0) (k := 0) [aI r6] [] (ov := (some (aI r24))) (stk2 := [aI r24]) okp_X11_warden (by decide +kernel) ml_RX11_361 vok_X11_warden (by decide) rfl nar_X11_warden (by decide) rfl (Nat.le_of_ble_eq_true rfl) (ok_X11_warden h22) rfl ?_
    refine aw_seq [(.bipush (-2), 2, (axI (-2)))] (pc' := 124) (L' := [some (aR 11 0 0), some (aR 6 0 x), some (aI v2), some (aI r6), some (aI r9), some (aI r12)]) (stk' := [aI (-2), aI r24]) (σ' := σ23) (g := []) (by decide +kernel) rfl rfl ?_
    refine aw_icmp_eq (off := 7) (tgt := 131) (by decide +kernel) (by decide) (fun c1 => ?_) (fun c1 => ?_)
    · rw [if_pos c1] at h
      refine aw_seq [(.iconst 0, 1, (axI 0))] (pc' := 132) (L' := [some (aR 11 0 0), some (aR 6 0 x), some (aI v2), some (aI r6), some (aI r9), some (aI r12)]) (stk' := [aI 0]) (σ' := σ23) (g := []) (by decide +kernel) rfl rfl ?_
      refine aw_forget (L' := [none, none, none, none, none, none]) (lsub_n (lsub_n (lsub_n (lsub_n (lsub_n (lsub_n (lsub_0))))))) ?_
      exact ok_X11_carriedOut_132 0 σ23 _ h
    · rw [if_neg c1] at h
      refine aw_seq [(.iconst 1, 1, (axI 1))] (pc' := 128) (L' := [some (aR 11 0 0), some (aR 6 0 x), some (aI v2), some (aI r6), some (aI r9), some (aI r12)]) (stk' := [aI 1]) (σ' := σ23) (g := []) (by decide +kernel) rfl rfl ?_
      refine aw_goto (off := 4) (tgt := 132) (by decide +kernel) (by decide) ?_
      refine aw_forget (L' := [none, none, none, none, none, none]) (lsub_n (lsub_n (lsub_n (lsub_n (lsub_n (lsub_n (lsub_0))))))) ?_
      exact ok_X11_carriedOut_132 1 σ23 _ h
  rw [if_neg c1] at h
  refine awsw_nil ?_
  refine aw_forget (L' := [some (aR 11 0 0), none, none, some (aI r6), some (aI r9), some (aI r12)]) (lsub_s (lsub_n (lsub_n (lsub_s (lsub_s (lsub_s (lsub_0))))))) ?_
  exact ok_X11_carriedOut_133 r6 r9 r12 σ11 _ h
def f_X6_clauseCount (κ : Kd) (x : Nat) (σ : Sg) : Option (Int32 × Sg) :=
  grd ((!decide ((4 : Int32) = 0)) && true) <|
  some (((Int32.ofNat (lenOf κ (x + 1))) / 4), σ)
set_option maxRecDepth 100000 in
set_option maxHeartbeats 4000000 in
theorem ok_X6_clauseCount {κ : Kd} {x : Nat} {σ : Sg} {q : (Int32 × Sg)} (h : f_X6_clauseCount κ x σ = some q) : AMet κ pX6_clauseCount 1 [aR 6 0 x] σ (some (aI q.1), q.2) := by
  unfold f_X6_clauseCount at h
  refine amet_of okp_X6_clauseCount [(false, aR 6 0 x)] (List.forall_mem_cons.mpr ⟨rfl, (fun _ hn => absurd hn List.not_mem_nil)⟩) 0 rfl ?_
  show AW κ pX6_clauseCount 1 (some (aI q.1), q.2) 0 [some (aR 6 0 x)] [] σ
  obtain ⟨hg, h⟩ := grd_some h
  refine aw_seq [(.aload_n 0, 1, ax0), (.getfield 9, 3, (axF 6 0 (2, 1, 13, none))), (.arraylength, 1, ax0), (.iconst 4, 1, (axI 4)), (.idiv, 1, ax0)] (pc' := 7) (L' := [some (aR 6 0 x)]) (stk' := [aI ((Int32.ofNat (lenOf κ (x + 1))) / 4)]) (σ' := σ) (g := [(!decide ((4 : Int32) = 0))]) (by decide +kernel) rfl hg ?_
  cases h
  exact aw_iret rfl (by decide +kernel)
def f_X11_played_88 (κ : Kd) (rec_18 : Nat → Int32 → Sg → Option (Int32 × Sg)) (v2 : Nat) (v3 : Int32) (v4 : Int32) (σ : Sg) : Option (Int32 × Sg) :=
  if v4 = 0 then (
    some (v3, σ)
  ) else (
    rec_18 v2 (v3 + 1) σ
  )
set_option maxRecDepth 100000 in
set_option maxHeartbeats 4000000 in
theorem ok_X11_played_88 {κ : Kd}   {rec_18 : Nat → Int32 → Sg → Option (Int32 × Sg)} (hrec_18 : ∀ (v2 : Nat) (v3 : Int32) (σ : Sg) (q : (Int32 × Sg)), rec_18 v2 v3 σ = some q → AW κ pX11_played 8 (some (aI q.1), q.2) 18 [some (aR 11 0 0), none, some (aR 6 0 v2), some (aI v3), none, none] [] σ) : ∀ (v2 : Nat) (v3 : Int32) (v4 : Int32) (σ : Sg) (q : (Int32 × Sg)), f_X11_played_88 κ rec_18 v2 v3 v4 σ = some q → AW κ pX11_played 8 (some (aI q.1), q.2) 88 [some (aR 11 0 0), none, some (aR 6 0 v2), some (aI v3), some (aI v4), none] [] σ := by
  intro v2 v3 v4 σ q h
  unfold f_X11_played_88 at h
  refine aw_seq [(.iload 4, 2, ax0)] (pc' := 90) (L' := [some (aR 11 0 0), none, some (aR 6 0 v2), some (aI v3), some (aI v4), none]) (stk' := [aI v4]) (σ' := σ) (g := []) (by decide +kernel) rfl rfl ?_
  refine aw_if_ne (off := 5) (tgt := 95) (by decide +kernel) (by decide) (fun c1 => ?_) (fun c1 => ?_)
  · rw [if_neg c1] at h
    refine aw_seq [(.iinc 3 1, 3, (axI 1))] (pc' := 98) (L' := [some (aR 11 0 0), none, some (aR 6 0 v2), some (aI (v3 + 1)), some (aI v4), none]) (stk' := []) (σ' := σ) (g := []) (by decide +kernel) rfl rfl ?_
    refine aw_goto (off := (-80)) (tgt := 18) (by decide +kernel) (by decide) ?_
    refine aw_forget (L' := [some (aR 11 0 0), none, some (aR 6 0 v2), some (aI (v3 + 1)), none, none]) (lsub_s (lsub_n (lsub_s (lsub_s (lsub_n (lsub_n (lsub_0))))))) ?_
    exact hrec_18 v2 (v3 + 1) σ _ h
  · rw [if_pos c1] at h
    refine aw_seq [(.iload_n 3, 1, ax0)] (pc' := 94) (L' := [some (aR 11 0 0), none, some (aR 6 0 v2), some (aI v3), some (aI v4), none]) (stk' := [aI v3]) (σ' := σ) (g := []) (by decide +kernel) rfl rfl ?_
    cases h
    exact aw_iret rfl (by decide +kernel)
def f_X11_played_68 (κ : Kd) (rec_18 : Nat → Int32 → Sg → Option (Int32 × Sg)) (v2 : Nat) (v3 : Int32) (v5 : Int32) (s0 : Int32) (σ : Sg) : Option (Int32 × Sg) :=
  bnd (f_X11_passHours κ v5 σ) fun r3 σ2 =>
  f_X11_played_88 κ rec_18 v2 v3 s0 σ2
set_option maxRecDepth 100000 in
set_option maxHeartbeats 4000000 in
theorem ok_X11_played_68 {κ : Kd}   {rec_18 : Nat → Int32 → Sg → Option (Int32 × Sg)} (hrec_18 : ∀ (v2 : Nat) (v3 : Int32) (σ : Sg) (q : (Int32 × Sg)), rec_18 v2 v3 σ = some q → AW κ pX11_played 8 (some (aI q.1), q.2) 18 [some (aR 11 0 0), none, some (aR 6 0 v2), some (aI v3), none, none] [] σ) : ∀ (v2 : Nat) (v3 : Int32) (v5 : Int32) (s0 : Int32) (σ : Sg) (q : (Int32 × Sg)), f_X11_played_68 κ rec_18 v2 v3 v5 s0 σ = some q → AW κ pX11_played 8 (some (aI q.1), q.2) 68 [some (aR 11 0 0), none, some (aR 6 0 v2), some (aI v3), none, some (aI v5)] [aI s0] σ := by
  intro v2 v3 v5 s0 σ q h
  unfold f_X11_played_68 at h
  refine aw_seq [(.istore 4, 2, ax0), (.aload_n 0, 1, ax0), (.iload 5, 2, ax0)] (pc' := 73) (L' := [some (aR 11 0 0), none, some (aR 6 0 v2), some (aI v3), some (aI s0), some (aI v5)]) (stk' := [aI v5, aR 11 0 0]) (σ' := σ) (g := []) (by decide +kernel) rfl rfl ?_
  obtain ⟨r3, σ2, h1, h⟩ := bnd_some h
  refine aw_cV (P' := pX11_passHours) (idx := 154) (d' := 7) (c := 11) (n := 0) (k := 0) [aI v5] [] (ov := (some (aI r3))) (stk2 := [aI r3]) okp_X11_passHours (by decide +kernel) ml_RX11_154 vok_X11_passHours (by decide) rfl nar_X11_passHours (by decide) rfl (Nat.le_of_ble_eq_true rfl) (ok_X11_passHours h1) rfl ?_
  refine aw_seq [(.pop, 1, ax0)] (pc' := 77) (L' := [some (aR 11 0 0), none, some (aR 6 0 v2), some (aI v3), some (aI s0), some (aI v5)]) (stk' := []) (σ' := σ2) (g := []) (by decide +kernel) rfl rfl ?_
  refine aw_goto (off := 11) (tgt := 88) (by decide +kernel) (by decide) ?_
  refine aw_forget (L' := [some (aR 11 0 0), none, some (aR 6 0 v2), some (aI v3), some (aI s0), none]) (lsub_s (lsub_n (lsub_s (lsub_s (lsub_s (lsub_n (lsub_0))))))) ?_
  exact ok_X11_played_88 hrec_18 v2 v3 s0 σ2 _ h
def f_X11_played_18 (κ : Kd)  : Nat → Nat → Int32 → Sg → Option (Int32 × Sg)
  | 0, _, _, _ => none
  | fu + 1, v2, v3, σ =>
    bnd (f_X6_clauseCount κ v2 σ) fun r6 σ5 =>
    if r6 ≤ v3 then (
      some ((-1), σ5)
    ) else (
      bnd (f_X6_kind κ v2 v3 σ5) fun r9 σ8 =>
      if r9 = 11 then (
        bnd (f_X6_number κ v2 v3 0 σ8) fun r15 σ14 =>
        if (9999 - (σ14.1 2 5)) < r15 then (
          f_X11_played_68 κ (f_X11_played_18 κ fu) v2 v3 r15 0 σ14
        ) else (
          f_X11_played_68 κ (f_X11_played_18 κ fu) v2 v3 r15 1 σ14
        )
      ) else (
        bnd (f_X11_carriedOut κ v2 v3 σ8) fun r12 σ11 =>
        f_X11_played_88 κ (f_X11_played_18 κ fu) v2 v3 r12 σ11
      )
    )
set_option maxRecDepth 100000 in
set_option maxHeartbeats 4000000 in
theorem ok_X11_played_18 {κ : Kd}    : ∀ (fu : Nat) (v2 : Nat) (v3 : Int32) (σ : Sg) (q : (Int32 × Sg)), f_X11_played_18 κ fu v2 v3 σ = some q → AW κ pX11_played 8 (some (aI q.1), q.2) 18 [some (aR 11 0 0), none, some (aR 6 0 v2), some (aI v3), none, none] [] σ := by
  intro fu
  induction fu with
  | zero =>
    intro v2 v3 σ q h
    unfold f_X11_played_18 at h
    cases h
  | succ fu ih =>
    intro v2 v3 σ q h
    unfold f_X11_played_18 at h
    refine aw_seq [(.iload_n 3, 1, ax0), (.aload_n 2, 1, ax0)] (pc' := 20) (L' := [some (aR 11 0 0), none, some (aR 6 0 v2), some (aI v3), none, none]) (stk' := [aR 6 0 v2, aI v3]) (σ' := σ) (g := []) (by decide +kernel) rfl rfl ?_
    obtain ⟨r6, σ5, h4, h⟩ := bnd_some h
    refine aw_cV (P' := pX6_clauseCount) (idx := 162) (d' := 1) (c := 6) (n := 0) (k := v2) [] [aI v3] (ov := (some (aI r6))) (stk2 := [aI r6, aI v3]) okp_X6_clauseCount (by decide +kernel) ml_RX11_162 vok_X6_clauseCount (by decide) rfl nar_X6_clauseCount (by decide) rfl (Nat.le_of_ble_eq_true rfl) (ok_X6_clauseCount h4) rfl ?_
    refine aw_icmp_ge (off := 78) (tgt := 101) (by decide +kernel) (by decide) (fun c1 => ?_) (fun c1 => ?_)
    · rw [if_pos c1] at h
      refine aw_seq [(.iconst (-1), 1, (axI (-1)))] (pc' := 102) (L' := [some (aR 11 0 0), none, some (aR 6 0 v2), some (aI v3), none, none]) (stk' := [aI (-1)]) (σ' := σ5) (g := []) (by decide +kernel) rfl rfl ?_
      cases h
      exact aw_iret rfl (by decide +kernel)
    · rw [if_neg c1] at h
      refine aw_seq [(.aload_n 2, 1, ax0), (.iload_n 3, 1, ax0)] (pc' := 28) (L' := [some (aR 11 0 0), none, some (aR 6 0 v2), some (aI v3), none, none]) (stk' := [aI v3, aR 6 0 v2]) (σ' := σ5) (g := []) (by decide +kernel) rfl rfl ?_
      obtain ⟨r9, σ8, h7, h⟩ := bnd_some h
      refine aw_cV (P' := pX6_kind) (idx := 168) (d' := 1) (c := 6) (n := 0) (k := v2) [aI v3] [] (ov := (some (aI r9))) (stk2 := [aI r9]) okp_X6_kind (by decide +kernel) ml_RX11_168 vok_X6_kind (by decide) rfl nar_X6_kind (by decide) rfl (Nat.le_of_ble_eq_true rfl) (ok_X6_kind h7) rfl ?_
      refine aw_seq [(.bipush 11, 2, (axI 11))] (pc' := 33) (L' := [some (aR 11 0 0), none, some (aR 6 0 v2), some (aI v3), none, none]) (stk' := [aI 11, aI r9]) (σ' := σ8) (g := []) (by decide +kernel) rfl rfl ?_
      refine aw_icmp_ne (off := 47) (tgt := 80) (by decide +kernel) (by decide) (fun c1 => ?_) (fun c1 => ?_)
      · rw [if_neg c1] at h
        refine aw_seq [(.aload_n 0, 1, ax0), (.aload_n 2, 1, ax0), (.iload_n 3, 1, ax0)] (pc' := 83) (L' := [some (aR 11 0 0), none, some (aR 6 0 v2), some (aI v3), none, none]) (stk' := [aI v3, aR 6 0 v2, aR 11 0 0]) (σ' := σ8) (g := []) (by decide +kernel) rfl rfl ?_
        obtain ⟨r12, σ11, h10, h⟩ := bnd_some h
        refine aw_cV (P' := pX11_carriedOut) (idx := 174) (d' := 7) (c := 11) (n := 0) (k := 0) [aR 6 0 v2, aI v3] [] (ov := (some (aI r12))) (stk2 := [aI r12]) okp_X11_carriedOut (by decide +kernel) ml_RX11_174 vok_X11_carriedOut (by decide) rfl nar_X11_carriedOut (by decide) rfl (Nat.le_of_ble_eq_true rfl) (ok_X11_carriedOut h10) rfl ?_
        refine aw_seq [(.istore 4, 2, ax0)] (pc' := 88) (L' := [some (aR 11 0 0), none, some (aR 6 0 v2), some (aI v3), some (aI r12), none]) (stk' := []) (σ' := σ11) (g := []) (by decide +kernel) rfl rfl ?_
        refine aw_forget (L' := [some (aR 11 0 0), none, some (aR 6 0 v2), some (aI v3), some (aI r12), none]) (lsub_s (lsub_n (lsub_s (lsub_s (lsub_s (lsub_n (lsub_0))))))) ?_
        exact ok_X11_played_88 ih v2 v3 r12 σ11 _ h
      · rw [if_pos c1] at h
        refine aw_seq [(.aload_n 2, 1, ax0), (.iload_n 3, 1, ax0), (.iconst 0, 1, (axI 0))] (pc' := 39) (L' := [some (aR 11 0 0), none, some (aR 6 0 v2), some (aI v3), none, none]) (stk' := [aI 0, aI v3, aR 6 0 v2]) (σ' := σ8) (g := []) (by decide +kernel) rfl rfl ?_
        obtain ⟨r15, σ14, h13, h⟩ := bnd_some h
        refine aw_cV (P' := pX6_number) (idx := 171) (d' := 1) (c := 6) (n := 0) (k := v2) [aI v3, aI 0] [] (ov := (some (aI r15))) (stk2 := [aI r15]) okp_X6_number (by decide +kernel) ml_RX11_171 vok_X6_number (by decide) rfl nar_X6_number (by decide) rfl (Nat.le_of_ble_eq_true rfl) (ok_X6_number h13) rfl ?_
        refine aw_seq [(.istore 5, 2, ax0), (.iload 5, 2, ax0), (.sipush 9999, 3, (axI 9999)), (.aload_n 0, 1, ax0), (.getfield 10, 3, (axF 11 0 (2, 1, 10, some 0))), (.getfield 68, 3, (axF 10 0 (2, 1, 8, some 0))), (.getfield 151, 3, (axF 8 5 (0, 0, 0, none))), (.isub, 1, ax0)] (pc' := 60) (L' := [some (aR 11 0 0), none, some (aR 6 0 v2), some (aI v3), none, some (aI r15)]) (stk' := [aI (9999 - (σ14.1 2 5)), aI r15]) (σ' := σ14) (g := []) (by decide +kernel) rfl rfl ?_
        refine aw_icmp_gt (off := 7) (tgt := 67) (by decide +kernel) (by decide) (fun c1 => ?_) (fun c1 => ?_)
        · rw [if_pos c1] at h
          refine aw_seq [(.iconst 0, 1, (axI 0))] (pc' := 68) (L' := [some (aR 11 0 0), none, some (aR 6 0 v2), some (aI v3), none, some (aI r15)]) (stk' := [aI 0]) (σ' := σ14) (g := []) (by decide +kernel) rfl rfl ?_
          refine aw_forget (L' := [some (aR 11 0 0), none, some (aR 6 0 v2), some (aI v3), none, some (aI r15)]) (lsub_s (lsub_n (lsub_s (lsub_s (lsub_n (lsub_s (lsub_0))))))) ?_
          exact ok_X11_played_68 ih v2 v3 r15 0 σ14 _ h
        · rw [if_neg c1] at h
          refine aw_seq [(.iconst 1, 1, (axI 1))] (pc' := 64) (L' := [some (aR 11 0 0), none, some (aR 6 0 v2), some (aI v3), none, some (aI r15)]) (stk' := [aI 1]) (σ' := σ14) (g := []) (by decide +kernel) rfl rfl ?_
          refine aw_goto (off := 4) (tgt := 68) (by decide +kernel) (by decide) ?_
          refine aw_forget (L' := [some (aR 11 0 0), none, some (aR 6 0 v2), some (aI v3), none, some (aI r15)]) (lsub_s (lsub_n (lsub_s (lsub_s (lsub_n (lsub_s (lsub_0))))))) ?_
          exact ok_X11_played_68 ih v2 v3 r15 1 σ14 _ h
def f_X11_played (κ : Kd) (v1 : Int32) (σ : Sg) : Option (Int32 × Sg) :=
  bnd (f_X10_textOf 1 v1 σ) fun r18 σ17 =>
  tsel r18 (
    some ((-2), σ17)
  ) (fun k19 =>
    f_X11_played_18 κ FU k19 0 σ17
  )
set_option maxRecDepth 100000 in
set_option maxHeartbeats 4000000 in
theorem ok_X11_played {κ : Kd} {v1 : Int32} {σ : Sg} {q : (Int32 × Sg)} (h : f_X11_played κ v1 σ = some q) : AMet κ pX11_played 8 [aR 11 0 0, aI v1] σ (some (aI q.1), q.2) := by
  unfold f_X11_played at h
  refine amet_of okp_X11_played [(false, aR 11 0 0), (false, aI v1)] (List.forall_mem_cons.mpr ⟨rfl, List.forall_mem_cons.mpr ⟨rfl, (fun _ hn => absurd hn List.not_mem_nil)⟩⟩) 4 rfl ?_
  show AW κ pX11_played 8 (some (aI q.1), q.2) 0 [some (aR 11 0 0), some (aI v1), none, none, none, none] [] σ
  refine aw_seq [(.aload_n 0, 1, ax0), (.getfield 10, 3, (axF 11 0 (2, 1, 10, some 0))), (.iload_n 1, 1, ax0)] (pc' := 5) (L' := [some (aR 11 0 0), some (aI v1), none, none, none, none]) (stk' := [aI v1, aR 10 0 1]) (σ' := σ) (g := []) (by decide +kernel) rfl rfl ?_
  obtain ⟨r18, σ17, h16, h⟩ := bnd_some h
  refine aw_cV (P' := pX10_textOf) (idx := 158) (d' := 2) (c := 10) (n := 0) (k := 1) [aI v1] [] (ov := (some (aT r18))) (stk2 := [aT r18]) okp_X10_textOf (by decide +kernel) ml_RX11_158 vok_X10_textOf (by decide) rfl nar_X10_textOf (by decide) rfl (Nat.le_of_ble_eq_true rfl) (ok_X10_textOf h16) rfl ?_
  refine aw_seq [(.astore_n 2, 1, ax0), (.aload_n 2, 1, ax0)] (pc' := 10) (L' := [some (aR 11 0 0), some (aI v1), some (aT r18), none, none, none]) (stk' := [aT r18]) (σ' := σ17) (g := []) (by decide +kernel) rfl rfl ?_
  rcases tsel_some h with ⟨e1, h2⟩ | ⟨k19, e1, h2⟩
  · replace h := h2
    clear h2; subst e1
    refine aw_ifnonnullN (off := 6) (tgt := 16) (by decide +kernel) (by decide) ?_
    refine aw_seq [(.bipush (-2), 2, (axI (-2)))] (pc' := 15) (L' := [some (aR 11 0 0), some (aI v1), some aN, none, none, none]) (stk' := [aI (-2)]) (σ' := σ17) (g := []) (by decide +kernel) rfl rfl ?_
    cases h
    exact aw_iret rfl (by decide +kernel)
  · replace h := h2
    clear h2; subst e1
    refine aw_ifnonnullR (q := (6, 0, k19)) (off := 6) (tgt := 16) (by decide +kernel) (by decide) ?_
    refine aw_seq [(.iconst 0, 1, (axI 0)), (.istore_n 3, 1, ax0)] (pc' := 18) (L' := [some (aR 11 0 0), some (aI v1), some (aR 6 0 k19), some (aI 0), none, none]) (stk' := []) (σ' := σ17) (g := []) (by decide +kernel) rfl rfl ?_
    refine aw_forget (L' := [some (aR 11 0 0), none, some (aR 6 0 k19), some (aI 0), none, none]) (lsub_s (lsub_n (lsub_s (lsub_s (lsub_n (lsub_n (lsub_0))))))) ?_
    exact ok_X11_played_18 FU k19 0 σ17 _ h
def f_X11_actOfDraw (v0 : Int32) (σ : Sg) : Option (Int32 × Sg) :=
  if v0 = 2 then (
    some (6, σ)
  ) else (
  if v0 = 3 then (
    some (7, σ)
  ) else (
  if v0 = 4 then (
    some (8, σ)
  ) else (
  if v0 = 5 then (
    some (9, σ)
  ) else (
    some (5, σ)
  ))))
set_option maxRecDepth 100000 in
set_option maxHeartbeats 4000000 in
theorem ok_X11_actOfDraw {κ : Kd} {v0 : Int32} {σ : Sg} {q : (Int32 × Sg)} (h : f_X11_actOfDraw v0 σ = some q) : AMet κ pX11_actOfDraw 1 [aI v0] σ (some (aI q.1), q.2) := by
  unfold f_X11_actOfDraw at h
  refine amet_of okp_X11_actOfDraw [(false, aI v0)] (List.forall_mem_cons.mpr ⟨rfl, (fun _ hn => absurd hn List.not_mem_nil)⟩) 0 rfl ?_
  show AW κ pX11_actOfDraw 1 (some (aI q.1), q.2) 0 [some (aI v0)] [] σ
  refine aw_seq [(.iload_n 0, 1, ax0)] (pc' := 1) (L' := [some (aI v0)]) (stk' := [aI v0]) (σ' := σ) (g := []) (by decide +kernel) rfl rfl ?_
  refine aw_table (dflt := 43) (lo := 2) (hi := 5) (offs := #[31, 34, 37, 40]) (len := 31) (dt := 44) (by decide +kernel) [(2, 32), (3, 35), (4, 38), (5, 41)] (by decide +kernel) ?_
  refine awsw_cons (fun c1 => ?_) (fun c1 => ?_)
  · rw [if_pos c1] at h
    refine aw_seq [(.bipush 6, 2, (axI 6))] (pc' := 34) (L' := [some (aI v0)]) (stk' := [aI 6]) (σ' := σ) (g := []) (by decide +kernel) rfl rfl ?_
    cases h
    exact aw_iret rfl (by decide +kernel)
  rw [if_neg c1] at h
  refine awsw_cons (fun c1 => ?_) (fun c1 => ?_)
  · rw [if_pos c1] at h
    refine aw_seq [(.bipush 7, 2, (axI 7))] (pc' := 37) (L' := [some (aI v0)]) (stk' := [aI 7]) (σ' := σ) (g := []) (by decide +kernel) rfl rfl ?_
    cases h
    exact aw_iret rfl (by decide +kernel)
  rw [if_neg c1] at h
  refine awsw_cons (fun c1 => ?_) (fun c1 => ?_)
  · rw [if_pos c1] at h
    refine aw_seq [(.bipush 8, 2, (axI 8))] (pc' := 40) (L' := [some (aI v0)]) (stk' := [aI 8]) (σ' := σ) (g := []) (by decide +kernel) rfl rfl ?_
    cases h
    exact aw_iret rfl (by decide +kernel)
  rw [if_neg c1] at h
  refine awsw_cons (fun c1 => ?_) (fun c1 => ?_)
  · rw [if_pos c1] at h
    refine aw_seq [(.bipush 9, 2, (axI 9))] (pc' := 43) (L' := [some (aI v0)]) (stk' := [aI 9]) (σ' := σ) (g := []) (by decide +kernel) rfl rfl ?_
    cases h
    exact aw_iret rfl (by decide +kernel)
  rw [if_neg c1] at h
  refine awsw_nil ?_
  refine aw_seq [(.iconst 5, 1, (axI 5))] (pc' := 45) (L' := [some (aI v0)]) (stk' := [aI 5]) (σ' := σ) (g := []) (by decide +kernel) rfl rfl ?_
  cases h
  exact aw_iret rfl (by decide +kernel)
def f_X11_befallByDraw_77 (κ : Kd)   (σ : Sg) : Option Sg :=
  some σ
set_option maxRecDepth 100000 in
set_option maxHeartbeats 4000000 in
theorem ok_X11_befallByDraw_77 {κ : Kd}    : ∀  (σ : Sg) (q : Sg), f_X11_befallByDraw_77 κ  σ = some q → AW κ pX11_befallByDraw 7 (none, q) 77 [none, none, none, none, none, none, none] [] σ := by
  intro  σ q h
  unfold f_X11_befallByDraw_77 at h
  cases h
  exact aw_vret rfl (by decide +kernel)
def f_X11_befallByDraw_177 (κ : Kd)   (σ : Sg) : Option Sg :=
  some σ
set_option maxRecDepth 100000 in
set_option maxHeartbeats 4000000 in
theorem ok_X11_befallByDraw_177 {κ : Kd}    : ∀  (σ : Sg) (q : Sg), f_X11_befallByDraw_177 κ  σ = some q → AW κ pX11_befallByDraw 7 (none, q) 177 [none, none, none, none, none, none, none] [] σ := by
  intro  σ q h
  unfold f_X11_befallByDraw_177 at h
  cases h
  exact aw_vret rfl (by decide +kernel)
def f_X11_befallByDraw_56 (κ : Kd)  (v1 : Int32) (v2 : Int32) (σ : Sg) : Option Sg :=
  if v2 = 7 then (
    f_X11_befallByDraw_77 κ σ
  ) else (
    if 0 < (σ.1 2 0) then (
      grd ((!decide ((σ.1 2 0) = 0)) && true) <|
      if v2 = 6 then (
        bnd (f_X10_rule 1 σ) fun r11 σ10 =>
        bnd (f_X1_visit κ 2 8 r11 (jrem v1 (σ.1 2 0)) σ10) fun r14 σ13 =>
        some σ13
      ) else (
        bnd (f_X11_actOfDraw v2 σ) fun r3 σ2 =>
        grd ((!decide ((8 : Int32) = 0)) && ((!decide ((σ.1 2 0) = 0)) && true)) <|
        bnd (f_X8_can 2 r3 (jrem v1 (σ.1 2 0)) (jrem (v1 / 8) (σ.1 2 0)) 8 σ2) fun r6 σ5 =>
        if r6 = 0 then (
          f_X11_befallByDraw_177 κ σ5
        ) else (
          bndV (f_X8_act 2 r3 (jrem v1 (σ.1 2 0)) (jrem (v1 / 8) (σ.1 2 0)) σ5) fun σ8 =>
          f_X11_befallByDraw_177 κ σ8
        )
      )
    ) else (
      f_X11_befallByDraw_77 κ σ
    )
  )
set_option maxRecDepth 100000 in
set_option maxHeartbeats 4000000 in
theorem ok_X11_befallByDraw_56 {κ : Kd}    : ∀ (v1 : Int32) (v2 : Int32) (σ : Sg) (q : Sg), f_X11_befallByDraw_56 κ v1 v2 σ = some q → AW κ pX11_befallByDraw 7 (none, q) 56 [some (aR 11 0 0), some (aI v1), some (aI v2), none, none, none, none] [] σ := by
  intro v1 v2 σ q h
  unfold f_X11_befallByDraw_56 at h
  refine aw_seq [(.aload_n 0, 1, ax0), (.getfield 10, 3, (axF 11 0 (2, 1, 10, some 0))), (.getfield 68, 3, (axF 10 0 (2, 1, 8, some 0))), (.getfield 312, 3, (axF 8 0 (0, 0, 0, none))), (.istore_n 3, 1, ax0), (.iload_n 2, 1, ax0), (.bipush 7, 2, (axI 7))] (pc' := 70) (L' := [some (aR 11 0 0), some (aI v1), some (aI v2), some (aI (σ.1 2 0)), none, none, none]) (stk' := [aI 7, aI v2]) (σ' := σ) (g := []) (by decide +kernel) rfl rfl ?_
  refine aw_icmp_eq (off := 7) (tgt := 77) (by decide +kernel) (by decide) (fun c1 => ?_) (fun c1 => ?_)
  · rw [if_pos c1] at h
    refine aw_forget (L' := [none, none, none, none, none, none, none]) (lsub_n (lsub_n (lsub_n (lsub_n (lsub_n (lsub_n (lsub_n (lsub_0)))))))) ?_
    exact ok_X11_befallByDraw_77 σ _ h
  · rw [if_neg c1] at h
    refine aw_seq [(.iload_n 3, 1, ax0)] (pc' := 74) (L' := [some (aR 11 0 0), some (aI v1), some (aI v2), some (aI (σ.1 2 0)), none, none, none]) (stk' := [aI (σ.1 2 0)]) (σ' := σ) (g := []) (by decide +kernel) rfl rfl ?_
    refine aw_if_gt (off := 4) (tgt := 78) (by decide +kernel) (by decide) (fun c1 => ?_) (fun c1 => ?_)
    · rw [if_pos c1] at h
      obtain ⟨hg, h⟩ := grd_some h
      refine aw_seq [(.iload_n 1, 1, ax0), (.iload_n 3, 1, ax0), (.irem, 1, ax0), (.istore 4, 2, ax0), (.iload_n 2, 1, ax0), (.bipush 6, 2, (axI 6))] (pc' := 86) (L' := [some (aR 11 0 0), some (aI v1), some (aI v2), some (aI (σ.1 2 0)), some (aI (jrem v1 (σ.1 2 0))), none, none]) (stk' := [aI 6, aI v2]) (σ' := σ) (g := [(!decide ((σ.1 2 0) = 0))]) (by decide +kernel) rfl hg ?_
      refine aw_icmp_ne (off := 35) (tgt := 121) (by decide +kernel) (by decide) (fun c1 => ?_) (fun c1 => ?_)
      · rw [if_neg c1] at h
        refine aw_seq [(.iload_n 2, 1, ax0)] (pc' := 122) (L' := [some (aR 11 0 0), some (aI v1), some (aI v2), some (aI (σ.1 2 0)), some (aI (jrem v1 (σ.1 2 0))), none, none]) (stk' := [aI v2]) (σ' := σ) (g := []) (by decide +kernel) rfl rfl ?_
        obtain ⟨r3, σ2, h1, h⟩ := bnd_some h
        refine aw_cS (P' := pX11_actOfDraw) (idx := 364) (d' := 1) [aI v2] [] (ov := (some (aI r3))) (stk2 := [aI r3]) okp_X11_actOfDraw (by decide +kernel) ml_RX11_364 tok_X11_actOfDraw nar_X11_actOfDraw (by decide) rfl (Nat.le_of_ble_eq_true rfl) (ok_X11_actOfDraw h1) rfl ?_
        obtain ⟨hg, h⟩ := grd_some h
        refine aw_seq [(.istore 5, 2, ax0), (.iload_n 1, 1, ax0), (.bipush 8, 2, (axI 8)), (.idiv, 1, ax0), (.iload_n 3, 1, ax0), (.irem, 1, ax0), (.istore 6, 2, ax0), (.aload_n 0, 1, ax0), (.getfield 10, 3, (axF 11 0 (2, 1, 10, some 0))), (.getfield 68, 3, (axF 10 0 (2, 1, 8, some 0))), (.iload 5, 2, ax0), (.iload 4, 2, ax0), (.iload 6, 2, ax0), (.aload_n 0, 1, ax0), (.getfield 10, 3, (axF 11 0 (2, 1, 10, some 0))), (.getfield 83, 3, (axF 10 1 (2, 7, 5, some 0)))] (pc' := 155) (L' := [some (aR 11 0 0), some (aI v1), some (aI v2), some (aI (σ.1 2 0)), some (aI (jrem v1 (σ.1 2 0))), some (aI r3), some (aI (jrem (v1 / 8) (σ.1 2 0)))]) (stk' := [aR 5 0 8, aI (jrem (v1 / 8) (σ.1 2 0)), aI (jrem v1 (σ.1 2 0)), aI r3, aR 8 0 2]) (σ' := σ2) (g := [(!decide ((8 : Int32) = 0)), (!decide ((σ.1 2 0) = 0))]) (by decide +kernel) rfl hg ?_
        obtain ⟨r6, σ5, h4, h⟩ := bnd_some h
        refine aw_cV (P' := pX8_can) (idx := 348) (d' := 3) (c := 8) (n := 0) (k := 2) [aI r3, aI (jrem v1 (σ.1 2 0)), aI (jrem (v1 / 8) (σ.1 2 0)), aR 5 0 8] [] (ov := (some (aI r6))) (stk2 := [aI r6]) okp_X8_can (by decide +kernel) ml_RX11_348 vok_X8_can (by decide) rfl nar_X8_can (by decide) rfl (Nat.le_of_ble_eq_true rfl) (ok_X8_can h4) rfl ?_
        refine aw_if_eq (off := 19) (tgt := 177) (by decide +kernel) (by decide) (fun c1 => ?_) (fun c1 => ?_)
        · rw [if_pos c1] at h
          refine aw_forget (L' := [none, none, none, none, none, none, none]) (lsub_n (lsub_n (lsub_n (lsub_n (lsub_n (lsub_n (lsub_n (lsub_0)))))))) ?_
          exact ok_X11_befallByDraw_177 σ5 _ h
        · rw [if_neg c1] at h
          refine aw_seq [(.aload_n 0, 1, ax0), (.getfield 10, 3, (axF 11 0 (2, 1, 10, some 0))), (.getfield 68, 3, (axF 10 0 (2, 1, 8, some 0))), (.iload 5, 2, ax0), (.iload 4, 2, ax0), (.iload 6, 2, ax0)] (pc' := 174) (L' := [some (aR 11 0 0), some (aI v1), some (aI v2), some (aI (σ.1 2 0)), some (aI (jrem v1 (σ.1 2 0))), some (aI r3), some (aI (jrem (v1 / 8) (σ.1 2 0)))]) (stk' := [aI (jrem (v1 / 8) (σ.1 2 0)), aI (jrem v1 (σ.1 2 0)), aI r3, aR 8 0 2]) (σ' := σ5) (g := []) (by decide +kernel) rfl rfl ?_
          obtain ⟨σ8, h7, h⟩ := bndV_some h
          refine aw_cV (P' := pX8_act) (idx := 352) (d' := 3) (c := 8) (n := 0) (k := 2) [aI r3, aI (jrem v1 (σ.1 2 0)), aI (jrem (v1 / 8) (σ.1 2 0))] [] (ov := none) (stk2 := []) okp_X8_act (by decide +kernel) ml_RX11_352 vok_X8_act (by decide) rfl nar_X8_act (by decide) rfl (Nat.le_of_ble_eq_true rfl) (ok_X8_act h7) rfl ?_
          refine aw_forget (L' := [none, none, none, none, none, none, none]) (lsub_n (lsub_n (lsub_n (lsub_n (lsub_n (lsub_n (lsub_n (lsub_0)))))))) ?_
          exact ok_X11_befallByDraw_177 σ8 _ h
      · rw [if_pos c1] at h
        refine aw_seq [(.aload_n 0, 1, ax0), (.getfield 29, 3, (axF 11 3 (2, 47, 1, some 0))), (.aload_n 0, 1, ax0), (.getfield 10, 3, (axF 11 0 (2, 1, 10, some 0))), (.getfield 68, 3, (axF 10 0 (2, 1, 8, some 0))), (.aload_n 0, 1, ax0), (.getfield 10, 3, (axF 11 0 (2, 1, 10, some 0))), (.getfield 83, 3, (axF 10 1 (2, 7, 5, some 0))), (.aload_n 0, 1, ax0), (.getfield 10, 3, (axF 11 0 (2, 1, 10, some 0)))] (pc' := 111) (L' := [some (aR 11 0 0), some (aI v1), some (aI v2), some (aI (σ.1 2 0)), some (aI (jrem v1 (σ.1 2 0))), none, none]) (stk' := [aR 10 0 1, aR 5 0 8, aR 8 0 2, aR 1 0 47]) (σ' := σ) (g := []) (by decide +kernel) rfl rfl ?_
        obtain ⟨r11, σ10, h9, h⟩ := bnd_some h
        refine aw_cV (P' := pX10_rule) (idx := 143) (d' := 3) (c := 10) (n := 0) (k := 1) [] [aR 5 0 8, aR 8 0 2, aR 1 0 47] (ov := (some (aT r11))) (stk2 := [aT r11, aR 5 0 8, aR 8 0 2, aR 1 0 47]) okp_X10_rule (by decide +kernel) ml_RX11_143 vok_X10_rule (by decide) rfl nar_X10_rule (by decide) rfl (Nat.le_of_ble_eq_true rfl) (ok_X10_rule h9) rfl ?_
        refine aw_seq [(.iload 4, 2, ax0)] (pc' := 116) (L' := [some (aR 11 0 0), some (aI v1), some (aI v2), some (aI (σ.1 2 0)), some (aI (jrem v1 (σ.1 2 0))), none, none]) (stk' := [aI (jrem v1 (σ.1 2 0)), aT r11, aR 5 0 8, aR 8 0 2, aR 1 0 47]) (σ' := σ10) (g := []) (by decide +kernel) rfl rfl ?_
        obtain ⟨r14, σ13, h12, h⟩ := bnd_some h
        refine aw_cV (P' := pX1_visit) (idx := 147) (d' := 5) (c := 1) (n := 0) (k := 47) [aR 8 0 2, aR 5 0 8, aT r11, aI (jrem v1 (σ.1 2 0))] [] (ov := (some (aI r14))) (stk2 := [aI r14]) okp_X1_visit (by decide +kernel) ml_RX11_147 vok_X1_visit (by decide) rfl nar_X1_visit (by decide) rfl (Nat.le_of_ble_eq_true rfl) (ok_X1_visit h12) rfl ?_
        refine aw_seq [(.pop, 1, ax0)] (pc' := 120) (L' := [some (aR 11 0 0), some (aI v1), some (aI v2), some (aI (σ.1 2 0)), some (aI (jrem v1 (σ.1 2 0))), none, none]) (stk' := []) (σ' := σ13) (g := []) (by decide +kernel) rfl rfl ?_
        cases h
        exact aw_vret rfl (by decide +kernel)
    · rw [if_neg c1] at h
      refine aw_forget (L' := [none, none, none, none, none, none, none]) (lsub_n (lsub_n (lsub_n (lsub_n (lsub_n (lsub_n (lsub_n (lsub_0)))))))) ?_
      exact ok_X11_befallByDraw_77 σ _ h
def f_X11_befallByDraw (κ : Kd) (v1 : Int32) (σ : Sg) : Option Sg :=
  grd ((!decide ((8 : Int32) = 0)) && true) <|
  if (jrem v1 8) = 7 then (
    if 9999 ≤ (σ.1 2 5) then (
      f_X11_befallByDraw_56 κ v1 (jrem v1 8) σ
    ) else (
      bnd (f_X10_rule 1 σ) fun r17 σ16 =>
      bnd (f_X1_pass κ 2 8 r17 σ16) fun r20 σ19 =>
      f_X11_befallByDraw_56 κ v1 (jrem v1 8) σ19
    )
  ) else (
    f_X11_befallByDraw_56 κ v1 (jrem v1 8) σ
  )
set_option maxRecDepth 100000 in
set_option maxHeartbeats 4000000 in
theorem ok_X11_befallByDraw {κ : Kd} {v1 : Int32} {σ : Sg} {q : Sg} (h : f_X11_befallByDraw κ v1 σ = some q) : AMet κ pX11_befallByDraw 7 [aR 11 0 0, aI v1] σ (none, q) := by
  unfold f_X11_befallByDraw at h
  refine amet_of okp_X11_befallByDraw [(false, aR 11 0 0), (false, aI v1)] (List.forall_mem_cons.mpr ⟨rfl, List.forall_mem_cons.mpr ⟨rfl, (fun _ hn => absurd hn List.not_mem_nil)⟩⟩) 5 rfl ?_
  show AW κ pX11_befallByDraw 7 (none, q) 0 [some (aR 11 0 0), some (aI v1), none, none, none, none, none] [] σ
  obtain ⟨hg, h⟩ := grd_some h
  refine aw_seq [(.iload_n 1, 1, ax0), (.bipush 8, 2, (axI 8)), (.irem, 1, ax0), (.istore_n 2, 1, ax0), (.iload_n 2, 1, ax0), (.bipush 7, 2, (axI 7))] (pc' := 8) (L' := [some (aR 11 0 0), some (aI v1), some (aI (jrem v1 8)), none, none, none, none]) (stk' := [aI 7, aI (jrem v1 8)]) (σ' := σ) (g := [(!decide ((8 : Int32) = 0))]) (by decide +kernel) rfl hg ?_
  refine aw_icmp_ne (off := 48) (tgt := 56) (by decide +kernel) (by decide) (fun c1 => ?_) (fun c1 => ?_)
  · rw [if_neg c1] at h
    refine aw_forget (L' := [some (aR 11 0 0), some (aI v1), some (aI (jrem v1 8)), none, none, none, none]) (lsub_s (lsub_s (lsub_s (lsub_n (lsub_n (lsub_n (lsub_n (lsub_0)))))))) ?_
    exact ok_X11_befallByDraw_56 v1 (jrem v1 8) σ _ h
  · rw [if_pos c1] at h
    refine aw_seq [(.aload_n 0, 1, ax0), (.getfield 10, 3, (axF 11 0 (2, 1, 10, some 0))), (.getfield 68, 3, (axF 10 0 (2, 1, 8, some 0))), (.getfield 151, 3, (axF 8 5 (0, 0, 0, none))), (.sipush 9999, 3, (axI 9999))] (pc' := 24) (L' := [some (aR 11 0 0), some (aI v1), some (aI (jrem v1 8)), none, none, none, none]) (stk' := [aI 9999, aI (σ.1 2 5)]) (σ' := σ) (g := []) (by decide +kernel) rfl rfl ?_
    refine aw_icmp_ge (off := 32) (tgt := 56) (by decide +kernel) (by decide) (fun c1 => ?_) (fun c1 => ?_)
    · rw [if_pos c1] at h
      refine aw_forget (L' := [some (aR 11 0 0), some (aI v1), some (aI (jrem v1 8)), none, none, none, none]) (lsub_s (lsub_s (lsub_s (lsub_n (lsub_n (lsub_n (lsub_n (lsub_0)))))))) ?_
      exact ok_X11_befallByDraw_56 v1 (jrem v1 8) σ _ h
    · rw [if_neg c1] at h
      refine aw_seq [(.aload_n 0, 1, ax0), (.getfield 29, 3, (axF 11 3 (2, 47, 1, some 0))), (.aload_n 0, 1, ax0), (.getfield 10, 3, (axF 11 0 (2, 1, 10, some 0))), (.getfield 68, 3, (axF 10 0 (2, 1, 8, some 0))), (.aload_n 0, 1, ax0), (.getfield 10, 3, (axF 11 0 (2, 1, 10, some 0))), (.getfield 83, 3, (axF 10 1 (2, 7, 5, some 0))), (.aload_n 0, 1, ax0), (.getfield 10, 3, (axF 11 0 (2, 1, 10, some 0)))] (pc' := 49) (L' := [some (aR 11 0 0), some (aI v1), some (aI (jrem v1 8)), none, none, none, none]) (stk' := [aR 10 0 1, aR 5 0 8, aR 8 0 2, aR 1 0 47]) (σ' := σ) (g := []) (by decide +kernel) rfl rfl ?_
      obtain ⟨r17, σ16, h15, h⟩ := bnd_some h
      refine aw_cV (P' := pX10_rule) (idx := 143) (d' := 3) (c := 10) (n := 0) (k := 1) [] [aR 5 0 8, aR 8 0 2, aR 1 0 47] (ov := (some (aT r17))) (stk2 := [aT r17, aR 5 0 8, aR 8 0 2, aR 1 0 47]) okp_X10_rule (by decide +kernel) ml_RX11_143 vok_X10_rule (by decide) rfl nar_X10_rule (by decide) rfl (Nat.le_of_ble_eq_true rfl) (ok_X10_rule h15) rfl ?_
      obtain ⟨r20, σ19, h18, h⟩ := bnd_some h
      refine aw_cV (P' := pX1_pass) (idx := 237) (d' := 6) (c := 1) (n := 0) (k := 47) [aR 8 0 2, aR 5 0 8, aT r17] [] (ov := (some (aI r20))) (stk2 := [aI r20]) okp_X1_pass (by decide +kernel) ml_RX11_237 vok_X1_pass (by decide) rfl nar_X1_pass (by decide) rfl (Nat.le_of_ble_eq_true rfl) (ok_X1_pass h18) rfl ?_
      refine aw_seq [(.pop, 1, ax0)] (pc' := 56) (L' := [some (aR 11 0 0), some (aI v1), some (aI (jrem v1 8)), none, none, none, none]) (stk' := []) (σ' := σ19) (g := []) (by decide +kernel) rfl rfl ?_
      refine aw_forget (L' := [some (aR 11 0 0), some (aI v1), some (aI (jrem v1 8)), none, none, none, none]) (lsub_s (lsub_s (lsub_s (lsub_n (lsub_n (lsub_n (lsub_n (lsub_0)))))))) ?_
      exact ok_X11_befallByDraw_56 v1 (jrem v1 8) σ19 _ h
def f_X11_winters_21 (κ : Kd)   (σ : Sg) : Option (Int32 × Sg) :=
  some ((-1), σ)
set_option maxRecDepth 100000 in
set_option maxHeartbeats 4000000 in
theorem ok_X11_winters_21 {κ : Kd}    : ∀  (σ : Sg) (q : (Int32 × Sg)), f_X11_winters_21 κ  σ = some q → AW κ pX11_winters 8 (some (aI q.1), q.2) 21 [none, none, none, none] [] σ := by
  intro  σ q h
  unfold f_X11_winters_21 at h
  refine aw_seq [(.iconst (-1), 1, (axI (-1)))] (pc' := 22) (L' := [none, none, none, none]) (stk' := [aI (-1)]) (σ' := σ) (g := []) (by decide +kernel) rfl rfl ?_
  cases h
  exact aw_iret rfl (by decide +kernel)
def f_X11_winters_59 (κ : Kd)  : Nat → Int32 → Int32 → Sg → Option (Int32 × Sg)
  | 0, _, _, _ => none
  | fu + 1, v2, v3, σ =>
    if v2 ≤ v3 then (
      some ((σ.1 2 5), σ)
    ) else (
      bnd (f_X8_nextX 2 σ) fun r3 σ2 =>
      bndV (f_X11_befallByDraw κ r3 σ2) fun σ5 =>
      (f_X11_winters_59 κ fu) v2 (v3 + 1) σ5
    )
set_option maxRecDepth 100000 in
set_option maxHeartbeats 4000000 in
theorem ok_X11_winters_59 {κ : Kd}    : ∀ (fu : Nat) (v2 : Int32) (v3 : Int32) (σ : Sg) (q : (Int32 × Sg)), f_X11_winters_59 κ fu v2 v3 σ = some q → AW κ pX11_winters 8 (some (aI q.1), q.2) 59 [some (aR 11 0 0), none, some (aI v2), some (aI v3)] [] σ := by
  intro fu
  induction fu with
  | zero =>
    intro v2 v3 σ q h
    unfold f_X11_winters_59 at h
    cases h
  | succ fu ih =>
    intro v2 v3 σ q h
    unfold f_X11_winters_59 at h
    refine aw_seq [(.iload_n 3, 1, ax0), (.iload_n 2, 1, ax0)] (pc' := 61) (L' := [some (aR 11 0 0), none, some (aI v2), some (aI v3)]) (stk' := [aI v2, aI v3]) (σ' := σ) (g := []) (by decide +kernel) rfl rfl ?_
    refine aw_icmp_ge (off := 23) (tgt := 84) (by decide +kernel) (by decide) (fun c1 => ?_) (fun c1 => ?_)
    · rw [if_pos c1] at h
      refine aw_seq [(.aload_n 0, 1, ax0), (.getfield 10, 3, (axF 11 0 (2, 1, 10, some 0))), (.getfield 68, 3, (axF 10 0 (2, 1, 8, some 0))), (.getfield 151, 3, (axF 8 5 (0, 0, 0, none)))] (pc' := 94) (L' := [some (aR 11 0 0), none, some (aI v2), some (aI v3)]) (stk' := [aI (σ.1 2 5)]) (σ' := σ) (g := []) (by decide +kernel) rfl rfl ?_
      cases h
      exact aw_iret rfl (by decide +kernel)
    · rw [if_neg c1] at h
      refine aw_seq [(.aload_n 0, 1, ax0), (.aload_n 0, 1, ax0), (.getfield 10, 3, (axF 11 0 (2, 1, 10, some 0))), (.getfield 68, 3, (axF 10 0 (2, 1, 8, some 0)))] (pc' := 72) (L' := [some (aR 11 0 0), none, some (aI v2), some (aI v3)]) (stk' := [aR 8 0 2, aR 11 0 0]) (σ' := σ) (g := []) (by decide +kernel) rfl rfl ?_
      obtain ⟨r3, σ2, h1, h⟩ := bnd_some h
      refine aw_cV (P' := pX8_nextX) (idx := 181) (d' := 1) (c := 8) (n := 0) (k := 2) [] [aR 11 0 0] (ov := (some (aI r3))) (stk2 := [aI r3, aR 11 0 0]) okp_X8_nextX (by decide +kernel) ml_RX11_181 vok_X8_nextX (by decide) rfl nar_X8_nextX (by decide) rfl (Nat.le_of_ble_eq_true rfl) (ok_X8_nextX h1) rfl ?_
      obtain ⟨σ5, h4, h⟩ := bndV_some h
      refine aw_cV (P' := pX11_befallByDraw) (idx := 184) (d' := 7) (c := 11) (n := 0) (k := 0) [aI r3] [] (ov := none) (stk2 := []) okp_X11_befallByDraw (by decide +kernel) ml_RX11_184 vok_X11_befallByDraw (by decide) rfl nar_X11_befallByDraw (by decide) rfl (Nat.le_of_ble_eq_true rfl) (ok_X11_befallByDraw h4) rfl ?_
      refine aw_seq [(.iinc 3 1, 3, (axI 1))] (pc' := 81) (L' := [some (aR 11 0 0), none, some (aI v2), some (aI (v3 + 1))]) (stk' := []) (σ' := σ5) (g := []) (by decide +kernel) rfl rfl ?_
      refine aw_goto (off := (-22)) (tgt := 59) (by decide +kernel) (by decide) ?_
      refine aw_forget (L' := [some (aR 11 0 0), none, some (aI v2), some (aI (v3 + 1))]) (lsub_s (lsub_n (lsub_s (lsub_s (lsub_0))))) ?_
      exact ih v2 (v3 + 1) σ5 _ h
def f_X11_winters (κ : Kd) (v1 : Int32) (v2 : Int32) (σ : Sg) : Option (Int32 × Sg) :=
  bnd (f_X11_within v1 0 9999 σ) fun r8 σ7 =>
  if r8 = 0 then (
    f_X11_winters_21 κ σ7
  ) else (
    bnd (f_X11_within v2 1 40 σ7) fun r11 σ10 =>
    if r11 = 0 then (
      f_X11_winters_21 κ σ10
    ) else (
      bndV (f_X4_keep 11 2 σ10) fun σ13 =>
      ltσ (wI σ13 2 7 ((v1 * 2) + 163)) fun σ14 =>
      f_X11_winters_59 κ FU v2 0 σ14
    )
  )
set_option maxRecDepth 100000 in
set_option maxHeartbeats 4000000 in
theorem ok_X11_winters {κ : Kd} {v1 : Int32} {v2 : Int32} {σ : Sg} {q : (Int32 × Sg)} (h : f_X11_winters κ v1 v2 σ = some q) : AMet κ pX11_winters 8 [aR 11 0 0, aI v1, aI v2] σ (some (aI q.1), q.2) := by
  unfold f_X11_winters at h
  refine amet_of okp_X11_winters [(false, aR 11 0 0), (false, aI v1), (false, aI v2)] (List.forall_mem_cons.mpr ⟨rfl, List.forall_mem_cons.mpr ⟨rfl, List.forall_mem_cons.mpr ⟨rfl, (fun _ hn => absurd hn List.not_mem_nil)⟩⟩⟩) 1 rfl ?_
  show AW κ pX11_winters 8 (some (aI q.1), q.2) 0 [some (aR 11 0 0), some (aI v1), some (aI v2), none] [] σ
  refine aw_seq [(.iload_n 1, 1, ax0), (.iconst 0, 1, (axI 0)), (.sipush 9999, 3, (axI 9999))] (pc' := 5) (L' := [some (aR 11 0 0), some (aI v1), some (aI v2), none]) (stk' := [aI 9999, aI 0, aI v1]) (σ' := σ) (g := []) (by decide +kernel) rfl rfl ?_
  obtain ⟨r8, σ7, h6, h⟩ := bnd_some h
  refine aw_cS (P' := pX11_within) (idx := 79) (d' := 1) [aI v1, aI 0, aI 9999] [] (ov := (some (aI r8))) (stk2 := [aI r8]) okp_X11_within (by decide +kernel) ml_RX11_79 tok_X11_within nar_X11_within (by decide) rfl (Nat.le_of_ble_eq_true rfl) (ok_X11_within h6) rfl ?_
  refine aw_if_eq (off := 13) (tgt := 21) (by decide +kernel) (by decide) (fun c1 => ?_) (fun c1 => ?_)
  · rw [if_pos c1] at h
    refine aw_forget (L' := [none, none, none, none]) (lsub_n (lsub_n (lsub_n (lsub_n (lsub_0))))) ?_
    exact ok_X11_winters_21 σ7 _ h
  · rw [if_neg c1] at h
    refine aw_seq [(.iload_n 2, 1, ax0), (.iconst 1, 1, (axI 1)), (.bipush 40, 2, (axI 40))] (pc' := 15) (L' := [some (aR 11 0 0), some (aI v1), some (aI v2), none]) (stk' := [aI 40, aI 1, aI v2]) (σ' := σ7) (g := []) (by decide +kernel) rfl rfl ?_
    obtain ⟨r11, σ10, h9, h⟩ := bnd_some h
    refine aw_cS (P' := pX11_within) (idx := 79) (d' := 1) [aI v2, aI 1, aI 40] [] (ov := (some (aI r11))) (stk2 := [aI r11]) okp_X11_within (by decide +kernel) ml_RX11_79 tok_X11_within nar_X11_within (by decide) rfl (Nat.le_of_ble_eq_true rfl) (ok_X11_within h9) rfl ?_
    refine aw_if_ne (off := 5) (tgt := 23) (by decide +kernel) (by decide) (fun c1 => ?_) (fun c1 => ?_)
    · rw [if_neg c1] at h
      refine aw_seq [(.aload_n 0, 1, ax0), (.getfield 10, 3, (axF 11 0 (2, 1, 10, some 0))), (.getfield 133, 3, (axF 10 2 (2, 10, 4, some 0))), (.aload_n 0, 1, ax0), (.getfield 10, 3, (axF 11 0 (2, 1, 10, some 0))), (.getfield 68, 3, (axF 10 0 (2, 1, 8, some 0)))] (pc' := 37) (L' := [some (aR 11 0 0), some (aI v1), some (aI v2), none]) (stk' := [aR 8 0 2, aR 4 0 11]) (σ' := σ10) (g := []) (by decide +kernel) rfl rfl ?_
      obtain ⟨σ13, h12, h⟩ := bndV_some h
      refine aw_cV (P' := pX4_keep) (idx := 137) (d' := 3) (c := 4) (n := 0) (k := 11) [aR 8 0 2] [] (ov := none) (stk2 := []) okp_X4_keep (by decide +kernel) ml_RX11_137 vok_X4_keep (by decide) rfl nar_X4_keep (by decide) rfl (Nat.le_of_ble_eq_true rfl) (ok_X4_keep h12) rfl ?_
      obtain ⟨σ14, e15, h⟩ := ltσ_some h
      refine aw_seq [(.aload_n 0, 1, ax0), (.getfield 10, 3, (axF 11 0 (2, 1, 10, some 0))), (.getfield 68, 3, (axF 10 0 (2, 1, 8, some 0))), (.iload_n 1, 1, ax0), (.iconst 2, 1, (axI 2)), (.imul, 1, ax0), (.sipush 163, 3, (axI 163)), (.iadd, 1, ax0), (.putfield 178, 3, (axF 8 7 (0, 0, 0, none)))] (pc' := 57) (L' := [some (aR 11 0 0), some (aI v1), some (aI v2), none]) (stk' := []) (σ' := σ14) (g := []) (by decide +kernel) (by rw [e15]; rfl) rfl ?_
      refine aw_seq [(.iconst 0, 1, (axI 0)), (.istore_n 3, 1, ax0)] (pc' := 59) (L' := [some (aR 11 0 0), some (aI v1), some (aI v2), some (aI 0)]) (stk' := []) (σ' := σ14) (g := []) (by decide +kernel) rfl rfl ?_
      refine aw_forget (L' := [some (aR 11 0 0), none, some (aI v2), some (aI 0)]) (lsub_s (lsub_n (lsub_s (lsub_s (lsub_0))))) ?_
      exact ok_X11_winters_59 FU v2 0 σ14 _ h
    · rw [if_pos c1] at h
      refine aw_forget (L' := [none, none, none, none]) (lsub_n (lsub_n (lsub_n (lsub_n (lsub_0))))) ?_
      exact ok_X11_winters_21 σ10 _ h
def f_X8_restore_13 (t : Nat) (qa : Nat)   (σ : Sg) : Option Sg :=
  some σ
set_option maxRecDepth 100000 in
set_option maxHeartbeats 4000000 in
theorem ok_X8_restore_13 {κ : Kd} {t : Nat} {qa : Nat}   : ∀  (σ : Sg) (q : Sg), f_X8_restore_13 t qa  σ = some q → AW κ pX8_restore 2 (none, q) 13 [none, none, none, none] [] σ := by
  intro  σ q h
  unfold f_X8_restore_13 at h
  cases h
  exact aw_vret rfl (by decide +kernel)
def f_X8_restore (t : Nat) (qa : Nat) (v2 : Int32) (σ : Sg) : Option Sg :=
  if v2 < 0 then (
    f_X8_restore_13 t qa σ
  ) else (
    if v2 ≤ (1770 - 59) then (
      grd (inb v2 1770 && true) <|
      grd (inb (v2 + 1) 1770 && true) <|
      ltσ (wI σ t 5 (σ.1 qa (ix (v2 + 1)))) fun σ1 =>
      grd (inb (v2 + 2) 1770 && true) <|
      ltσ (wI σ1 t 6 (σ1.1 qa (ix (v2 + 2)))) fun σ3 =>
      grd (inb (v2 + 3) 1770 && true) <|
      ltσ (wI σ3 t 7 (σ3.1 qa (ix (v2 + 3)))) fun σ5 =>
      grd (inb (v2 + 4) 1770 && true) <|
      ltσ (wI σ5 t 9 (σ5.1 qa (ix (v2 + 4)))) fun σ7 =>
      grd (cpg (v2 + 5) 0 (imax 0 (imin (σ.1 qa (ix v2)) 8)) 1770 8) <|
      ltσ (wC σ7 qa (ix (v2 + 5)) (t + 2) (ix 0) (ix (imax 0 (imin (σ.1 qa (ix v2)) 8)))) fun σ9 =>
      grd (cpg ((v2 + 5) + 8) 0 (imax 0 (imin (σ.1 qa (ix v2)) 8)) 1770 8) <|
      ltσ (wC σ9 qa (ix ((v2 + 5) + 8)) (t + 3) (ix 0) (ix (imax 0 (imin (σ.1 qa (ix v2)) 8)))) fun σ11 =>
      grd (cpg ((v2 + 5) + 16) 0 (imax 0 (imin (σ.1 qa (ix v2)) 8)) 1770 8) <|
      ltσ (wC σ11 qa (ix ((v2 + 5) + 16)) (t + 4) (ix 0) (ix (imax 0 (imin (σ.1 qa (ix v2)) 8)))) fun σ13 =>
      grd (cpg ((v2 + 5) + 24) 0 30 1770 30) <|
      ltσ (wC σ13 qa (ix ((v2 + 5) + 24)) (t + 5) (ix 0) (ix 30)) fun σ15 =>
      some σ15
    ) else (
      f_X8_restore_13 t qa σ
    )
  )
set_option maxRecDepth 100000 in
set_option maxHeartbeats 4000000 in
theorem ok_X8_restore {κ : Kd} {t : Nat} {qa : Nat} {v2 : Int32} {σ : Sg} {q : Sg} (h : f_X8_restore t qa v2 σ = some q) : AMet κ pX8_restore 2 [aR 8 0 t, aR 13 1770 qa, aI v2] σ (none, q) := by
  unfold f_X8_restore at h
  refine amet_of okp_X8_restore [(false, aR 8 0 t), (false, aR 13 1770 qa), (false, aI v2)] (List.forall_mem_cons.mpr ⟨rfl, List.forall_mem_cons.mpr ⟨rfl, List.forall_mem_cons.mpr ⟨rfl, (fun _ hn => absurd hn List.not_mem_nil)⟩⟩⟩) 1 rfl ?_
  show AW κ pX8_restore 2 (none, q) 0 [some (aR 8 0 t), some (aR 13 1770 qa), some (aI v2), none] [] σ
  refine aw_seq [(.iload_n 2, 1, ax0)] (pc' := 1) (L' := [some (aR 8 0 t), some (aR 13 1770 qa), some (aI v2), none]) (stk' := [aI v2]) (σ' := σ) (g := []) (by decide +kernel) rfl rfl ?_
  refine aw_if_lt (off := 12) (tgt := 13) (by decide +kernel) (by decide) (fun c1 => ?_) (fun c1 => ?_)
  · rw [if_pos c1] at h
    refine aw_forget (L' := [none, none, none, none]) (lsub_n (lsub_n (lsub_n (lsub_n (lsub_0))))) ?_
    exact ok_X8_restore_13 σ _ h
  · rw [if_neg c1] at h
    refine aw_seq [(.iload_n 2, 1, ax0), (.aload_n 1, 1, ax0), (.arraylength, 1, ax0), (.bipush 59, 2, (axI 59)), (.isub, 1, ax0)] (pc' := 10) (L' := [some (aR 8 0 t), some (aR 13 1770 qa), some (aI v2), none]) (stk' := [aI (1770 - 59), aI v2]) (σ' := σ) (g := []) (by decide +kernel) rfl rfl ?_
    refine aw_icmp_le (off := 4) (tgt := 14) (by decide +kernel) (by decide) (fun c1 => ?_) (fun c1 => ?_)
    · rw [if_pos c1] at h
      obtain ⟨hg, h⟩ := grd_some h
      refine aw_seq [(.iconst 0, 1, (axI 0)), (.aload_n 1, 1, ax0), (.iload_n 2, 1, ax0), (.iaload, 1, ax0), (.bipush 8, 2, (axI 8))] (pc' := 20) (L' := [some (aR 8 0 t), some (aR 13 1770 qa), some (aI v2), none]) (stk' := [aI 8, aI (σ.1 qa (ix v2)), aI 0]) (σ' := σ) (g := [inb v2 1770]) (by decide +kernel) rfl hg ?_
      refine aw_imin (idx := 49) (by decide) (Nat.le_of_ble_eq_true rfl) jw_imin ml_RX8_49 (by decide +kernel) ?_
      refine aw_imax (idx := 55) (by decide) (Nat.le_of_ble_eq_true rfl) jw_imax ml_RX8_55 (by decide +kernel) ?_
      obtain ⟨hg, h⟩ := grd_some h
      obtain ⟨σ1, e2, h⟩ := ltσ_some h
      refine aw_seq [(.istore_n 3, 1, ax0), (.aload_n 0, 1, ax0), (.aload_n 1, 1, ax0), (.iload_n 2, 1, ax0), (.iconst 1, 1, (axI 1)), (.iadd, 1, ax0), (.iaload, 1, ax0), (.putfield 40, 3, (axF 8 5 (0, 0, 0, none)))] (pc' := 36) (L' := [some (aR 8 0 t), some (aR 13 1770 qa), some (aI v2), some (aI (imax 0 (imin (σ.1 qa (ix v2)) 8)))]) (stk' := []) (σ' := σ1) (g := [inb (v2 + 1) 1770]) (by decide +kernel) (by rw [e2]; rfl) hg ?_
      obtain ⟨hg, h⟩ := grd_some h
      obtain ⟨σ3, e4, h⟩ := ltσ_some h
      refine aw_seq [(.aload_n 0, 1, ax0), (.aload_n 1, 1, ax0), (.iload_n 2, 1, ax0), (.iconst 2, 1, (axI 2)), (.iadd, 1, ax0), (.iaload, 1, ax0), (.putfield 43, 3, (axF 8 6 (0, 0, 0, none)))] (pc' := 45) (L' := [some (aR 8 0 t), some (aR 13 1770 qa), some (aI v2), some (aI (imax 0 (imin (σ.1 qa (ix v2)) 8)))]) (stk' := []) (σ' := σ3) (g := [inb (v2 + 2) 1770]) (by decide +kernel) (by rw [e4]; rfl) hg ?_
      obtain ⟨hg, h⟩ := grd_some h
      obtain ⟨σ5, e6, h⟩ := ltσ_some h
      refine aw_seq [(.aload_n 0, 1, ax0), (.aload_n 1, 1, ax0), (.iload_n 2, 1, ax0), (.iconst 3, 1, (axI 3)), (.iadd, 1, ax0), (.iaload, 1, ax0), (.putfield 24, 3, (axF 8 7 (0, 0, 0, none)))] (pc' := 54) (L' := [some (aR 8 0 t), some (aR 13 1770 qa), some (aI v2), some (aI (imax 0 (imin (σ.1 qa (ix v2)) 8)))]) (stk' := []) (σ' := σ5) (g := [inb (v2 + 3) 1770]) (by decide +kernel) (by rw [e6]; rfl) hg ?_
      obtain ⟨hg, h⟩ := grd_some h
      obtain ⟨σ7, e8, h⟩ := ltσ_some h
      refine aw_seq [(.aload_n 0, 1, ax0), (.aload_n 1, 1, ax0), (.iload_n 2, 1, ax0), (.iconst 4, 1, (axI 4)), (.iadd, 1, ax0), (.iaload, 1, ax0), (.putfield 46, 3, (axF 8 9 (0, 0, 0, none)))] (pc' := 63) (L' := [some (aR 8 0 t), some (aR 13 1770 qa), some (aI v2), some (aI (imax 0 (imin (σ.1 qa (ix v2)) 8)))]) (stk' := []) (σ' := σ7) (g := [inb (v2 + 4) 1770]) (by decide +kernel) (by rw [e8]; rfl) hg ?_
      refine aw_seq [(.aload_n 1, 1, ax0), (.iload_n 2, 1, ax0), (.iconst 5, 1, (axI 5)), (.iadd, 1, ax0), (.aload_n 0, 1, ax0), (.getfield 15, 3, (axF 8 2 (2, 2, 13, some 8))), (.iconst 0, 1, (axI 0)), (.iload_n 3, 1, ax0)] (pc' := 73) (L' := [some (aR 8 0 t), some (aR 13 1770 qa), some (aI v2), some (aI (imax 0 (imin (σ.1 qa (ix v2)) 8)))]) (stk' := [aI (imax 0 (imin (σ.1 qa (ix v2)) 8)), aI 0, aR 13 8 (t + 2), aI (v2 + 5), aR 13 1770 qa]) (σ' := σ7) (g := []) (by decide +kernel) rfl rfl ?_
      obtain ⟨hg, h⟩ := grd_some h
      obtain ⟨σ9, e10, h⟩ := ltσ_some h
      refine aw_copyI (idx := 34) (by decide) (Nat.le_of_ble_eq_true rfl) jw_copy ml_RX8_34 (by decide +kernel) hg ?_
      rw [← e10]
      refine aw_seq [(.aload_n 1, 1, ax0), (.iload_n 2, 1, ax0), (.iconst 5, 1, (axI 5)), (.iadd, 1, ax0), (.bipush 8, 2, (axI 8)), (.iadd, 1, ax0), (.aload_n 0, 1, ax0), (.getfield 18, 3, (axF 8 3 (2, 3, 13, some 8))), (.iconst 0, 1, (axI 0)), (.iload_n 3, 1, ax0)] (pc' := 89) (L' := [some (aR 8 0 t), some (aR 13 1770 qa), some (aI v2), some (aI (imax 0 (imin (σ.1 qa (ix v2)) 8)))]) (stk' := [aI (imax 0 (imin (σ.1 qa (ix v2)) 8)), aI 0, aR 13 8 (t + 3), aI ((v2 + 5) + 8), aR 13 1770 qa]) (σ' := σ9) (g := []) (by decide +kernel) rfl rfl ?_
      obtain ⟨hg, h⟩ := grd_some h
      obtain ⟨σ11, e12, h⟩ := ltσ_some h
      refine aw_copyI (idx := 34) (by decide) (Nat.le_of_ble_eq_true rfl) jw_copy ml_RX8_34 (by decide +kernel) hg ?_
      rw [← e12]
      refine aw_seq [(.aload_n 1, 1, ax0), (.iload_n 2, 1, ax0), (.iconst 5, 1, (axI 5)), (.iadd, 1, ax0), (.bipush 16, 2, (axI 16)), (.iadd, 1, ax0), (.aload_n 0, 1, ax0), (.getfield 21, 3, (axF 8 4 (2, 4, 13, some 8))), (.iconst 0, 1, (axI 0)), (.iload_n 3, 1, ax0)] (pc' := 105) (L' := [some (aR 8 0 t), some (aR 13 1770 qa), some (aI v2), some (aI (imax 0 (imin (σ.1 qa (ix v2)) 8)))]) (stk' := [aI (imax 0 (imin (σ.1 qa (ix v2)) 8)), aI 0, aR 13 8 (t + 4), aI ((v2 + 5) + 16), aR 13 1770 qa]) (σ' := σ11) (g := []) (by decide +kernel) rfl rfl ?_
      obtain ⟨hg, h⟩ := grd_some h
      obtain ⟨σ13, e14, h⟩ := ltσ_some h
      refine aw_copyI (idx := 34) (by decide) (Nat.le_of_ble_eq_true rfl) jw_copy ml_RX8_34 (by decide +kernel) hg ?_
      rw [← e14]
      refine aw_seq [(.aload_n 1, 1, ax0), (.iload_n 2, 1, ax0), (.iconst 5, 1, (axI 5)), (.iadd, 1, ax0), (.bipush 24, 2, (axI 24)), (.iadd, 1, ax0), (.aload_n 0, 1, ax0), (.getfield 28, 3, (axF 8 8 (2, 5, 13, some 30))), (.iconst 0, 1, (axI 0)), (.bipush 30, 2, (axI 30))] (pc' := 122) (L' := [some (aR 8 0 t), some (aR 13 1770 qa), some (aI v2), some (aI (imax 0 (imin (σ.1 qa (ix v2)) 8)))]) (stk' := [aI 30, aI 0, aR 13 30 (t + 5), aI ((v2 + 5) + 24), aR 13 1770 qa]) (σ' := σ13) (g := []) (by decide +kernel) rfl rfl ?_
      obtain ⟨hg, h⟩ := grd_some h
      obtain ⟨σ15, e16, h⟩ := ltσ_some h
      refine aw_copyI (idx := 34) (by decide) (Nat.le_of_ble_eq_true rfl) jw_copy ml_RX8_34 (by decide +kernel) hg ?_
      rw [← e16]
      cases h
      exact aw_vret rfl (by decide +kernel)
    · rw [if_neg c1] at h
      refine aw_forget (L' := [none, none, none, none]) (lsub_n (lsub_n (lsub_n (lsub_n (lsub_0))))) ?_
      exact ok_X8_restore_13 σ _ h
def f_X4_takeBack (p : Nat) (t : Nat) (σ : Sg) : Option (Int32 × Sg) :=
  if 0 < (σ.1 p 2) then (
    ltσ (wI σ p 2 ((σ.1 p 2) - 1)) fun σ1 =>
    grd ((!decide ((30 : Int32) = 0)) && true) <|
    bndV (f_X8_restore t (p + 1) ((jrem ((σ1.1 p 1) + (σ1.1 p 2)) 30) * 59) σ1) fun σ4 =>
    some (1, σ4)
  ) else (
    some (0, σ)
  )
set_option maxRecDepth 100000 in
set_option maxHeartbeats 4000000 in
theorem ok_X4_takeBack {κ : Kd} {p : Nat} {t : Nat} {σ : Sg} {q : (Int32 × Sg)} (h : f_X4_takeBack p t σ = some q) : AMet κ pX4_takeBack 3 [aR 4 0 p, aR 8 0 t] σ (some (aI q.1), q.2) := by
  unfold f_X4_takeBack at h
  refine amet_of okp_X4_takeBack [(false, aR 4 0 p), (false, aR 8 0 t)] (List.forall_mem_cons.mpr ⟨rfl, List.forall_mem_cons.mpr ⟨rfl, (fun _ hn => absurd hn List.not_mem_nil)⟩⟩) 0 rfl ?_
  show AW κ pX4_takeBack 3 (some (aI q.1), q.2) 0 [some (aR 4 0 p), some (aR 8 0 t)] [] σ
  refine aw_seq [(.aload_n 0, 1, ax0), (.getfield 25, 3, (axF 4 2 (0, 0, 0, none)))] (pc' := 4) (L' := [some (aR 4 0 p), some (aR 8 0 t)]) (stk' := [aI (σ.1 p 2)]) (σ' := σ) (g := []) (by decide +kernel) rfl rfl ?_
  refine aw_if_gt (off := 5) (tgt := 9) (by decide +kernel) (by decide) (fun c1 => ?_) (fun c1 => ?_)
  · rw [if_pos c1] at h
    obtain ⟨σ1, e2, h⟩ := ltσ_some h
    refine aw_seq [(.aload_n 0, 1, ax0), (.dup, 1, ax0), (.getfield 25, 3, (axF 4 2 (0, 0, 0, none))), (.iconst 1, 1, (axI 1)), (.isub, 1, ax0), (.putfield 25, 3, (axF 4 2 (0, 0, 0, none)))] (pc' := 19) (L' := [some (aR 4 0 p), some (aR 8 0 t)]) (stk' := []) (σ' := σ1) (g := []) (by decide +kernel) (by rw [e2]; rfl) rfl ?_
    obtain ⟨hg, h⟩ := grd_some h
    refine aw_seq [(.aload_n 1, 1, ax0), (.aload_n 0, 1, ax0), (.getfield 11, 3, (axF 4 0 (2, 1, 13, some 1770))), (.aload_n 0, 1, ax0), (.getfield 21, 3, (axF 4 1 (0, 0, 0, none))), (.aload_n 0, 1, ax0), (.getfield 25, 3, (axF 4 2 (0, 0, 0, none))), (.iadd, 1, ax0), (.bipush 30, 2, (axI 30)), (.irem, 1, ax0), (.bipush 59, 2, (axI 59)), (.imul, 1, ax0)] (pc' := 39) (L' := [some (aR 4 0 p), some (aR 8 0 t)]) (stk' := [aI ((jrem ((σ1.1 p 1) + (σ1.1 p 2)) 30) * 59), aR 13 1770 (p + 1), aR 8 0 t]) (σ' := σ1) (g := [(!decide ((30 : Int32) = 0))]) (by decide +kernel) rfl hg ?_
    obtain ⟨σ4, h3, h⟩ := bndV_some h
    refine aw_cV (P' := pX8_restore) (idx := 32) (d' := 2) (c := 8) (n := 0) (k := t) [aR 13 1770 (p + 1), aI ((jrem ((σ1.1 p 1) + (σ1.1 p 2)) 30) * 59)] [] (ov := none) (stk2 := []) okp_X8_restore (by decide +kernel) ml_RX4_32 vok_X8_restore (by decide) rfl nar_X8_restore (by decide) rfl (Nat.le_of_ble_eq_true rfl) (ok_X8_restore h3) rfl ?_
    refine aw_seq [(.iconst 1, 1, (axI 1))] (pc' := 43) (L' := [some (aR 4 0 p), some (aR 8 0 t)]) (stk' := [aI 1]) (σ' := σ4) (g := []) (by decide +kernel) rfl rfl ?_
    cases h
    exact aw_zret rfl bz_1 (by decide +kernel)
  · rw [if_neg c1] at h
    refine aw_seq [(.iconst 0, 1, (axI 0))] (pc' := 8) (L' := [some (aR 4 0 p), some (aR 8 0 t)]) (stk' := [aI 0]) (σ' := σ) (g := []) (by decide +kernel) rfl rfl ?_
    cases h
    exact aw_zret rfl bz_0 (by decide +kernel)
def f_X11_undo_34   (s0 : Int32) (σ : Sg) : Option (Int32 × Sg) :=
  some (s0, σ)
set_option maxRecDepth 100000 in
set_option maxHeartbeats 4000000 in
theorem ok_X11_undo_34 {κ : Kd}    : ∀ (s0 : Int32) (σ : Sg) (q : (Int32 × Sg)), f_X11_undo_34 s0 σ = some q → AW κ pX11_undo 4 (some (aI q.1), q.2) 34 [none] [aI s0] σ := by
  intro s0 σ q h
  unfold f_X11_undo_34 at h
  cases h
  exact aw_iret rfl (by decide +kernel)
def f_X11_undo  (σ : Sg) : Option (Int32 × Sg) :=
  bnd (f_X4_takeBack 11 2 σ) fun r3 σ2 =>
  if r3 = 0 then (
    f_X11_undo_34 (-1) σ2
  ) else (
    f_X11_undo_34 (σ2.1 11 2) σ2
  )
set_option maxRecDepth 100000 in
set_option maxHeartbeats 4000000 in
theorem ok_X11_undo {κ : Kd}  {σ : Sg} {q : (Int32 × Sg)} (h : f_X11_undo σ = some q) : AMet κ pX11_undo 4 [aR 11 0 0] σ (some (aI q.1), q.2) := by
  unfold f_X11_undo at h
  refine amet_of okp_X11_undo [(false, aR 11 0 0)] (List.forall_mem_cons.mpr ⟨rfl, (fun _ hn => absurd hn List.not_mem_nil)⟩) 0 rfl ?_
  show AW κ pX11_undo 4 (some (aI q.1), q.2) 0 [some (aR 11 0 0)] [] σ
  refine aw_seq [(.aload_n 0, 1, ax0), (.getfield 10, 3, (axF 11 0 (2, 1, 10, some 0))), (.getfield 133, 3, (axF 10 2 (2, 10, 4, some 0))), (.aload_n 0, 1, ax0), (.getfield 10, 3, (axF 11 0 (2, 1, 10, some 0))), (.getfield 68, 3, (axF 10 0 (2, 1, 8, some 0)))] (pc' := 14) (L' := [some (aR 11 0 0)]) (stk' := [aR 8 0 2, aR 4 0 11]) (σ' := σ) (g := []) (by decide +kernel) rfl rfl ?_
  obtain ⟨r3, σ2, h1, h⟩ := bnd_some h
  refine aw_cV (P' := pX4_takeBack) (idx := 187) (d' := 3) (c := 4) (n := 0) (k := 11) [aR 8 0 2] [] (ov := (some (aI r3))) (stk2 := [aI r3]) okp_X4_takeBack (by decide +kernel) ml_RX11_187 vok_X4_takeBack (by decide) rfl nar_X4_takeBack (by decide) rfl (Nat.le_of_ble_eq_true rfl) (ok_X4_takeBack h1) rfl ?_
  refine aw_if_eq (off := 16) (tgt := 33) (by decide +kernel) (by decide) (fun c1 => ?_) (fun c1 => ?_)
  · rw [if_pos c1] at h
    refine aw_seq [(.iconst (-1), 1, (axI (-1)))] (pc' := 34) (L' := [some (aR 11 0 0)]) (stk' := [aI (-1)]) (σ' := σ2) (g := []) (by decide +kernel) rfl rfl ?_
    refine aw_forget (L' := [none]) (lsub_n (lsub_0)) ?_
    exact ok_X11_undo_34 (-1) σ2 _ h
  · rw [if_neg c1] at h
    refine aw_seq [(.aload_n 0, 1, ax0), (.getfield 10, 3, (axF 11 0 (2, 1, 10, some 0))), (.getfield 133, 3, (axF 10 2 (2, 10, 4, some 0))), (.getfield 191, 3, (axF 4 2 (0, 0, 0, none)))] (pc' := 30) (L' := [some (aR 11 0 0)]) (stk' := [aI (σ2.1 11 2)]) (σ' := σ2) (g := []) (by decide +kernel) rfl rfl ?_
    refine aw_goto (off := 4) (tgt := 34) (by decide +kernel) (by decide) ?_
    refine aw_forget (L' := [none]) (lsub_n (lsub_0)) ?_
    exact ok_X11_undo_34 (σ2.1 11 2) σ2 _ h
def f_X1_rateToday (κ : Kd) (t : Nat) (s : Nat) (r : Option Nat) (v4 : Int32) (v5 : Int32) (σ : Sg) : Option (Int32 × Sg) :=
  bnd (f_X8_housesBy t 3 3 σ) fun r3 σ2 =>
  bnd (f_X5_near s v5 r3 σ2) fun r6 σ5 =>
  bnd (f_X1_rate κ t r v4 v5 r6 σ5) fun r9 σ8 =>
  some (r9, σ8)
set_option maxRecDepth 100000 in
set_option maxHeartbeats 4000000 in
theorem ok_X1_rateToday {κ : Kd} {t : Nat} {s : Nat} {r : Option Nat} {v4 : Int32} {v5 : Int32} {σ : Sg} {q : (Int32 × Sg)} (h : f_X1_rateToday κ t s r v4 v5 σ = some q) : AMet κ pX1_rateToday 5 [aR 1 0 47, aR 8 0 t, aR 5 0 s, aT r, aI v4, aI v5] σ (some (aI q.1), q.2) := by
  unfold f_X1_rateToday at h
  refine amet_of okp_X1_rateToday [(false, aR 1 0 47), (false, aR 8 0 t), (false, aR 5 0 s), (false, aT r), (false, aI v4), (false, aI v5)] (List.forall_mem_cons.mpr ⟨rfl, List.forall_mem_cons.mpr ⟨rfl, List.forall_mem_cons.mpr ⟨rfl, List.forall_mem_cons.mpr ⟨isL_aT _, List.forall_mem_cons.mpr ⟨rfl, List.forall_mem_cons.mpr ⟨rfl, (fun _ hn => absurd hn List.not_mem_nil)⟩⟩⟩⟩⟩⟩) 0 rfl ?_
  show AW κ pX1_rateToday 5 (some (aI q.1), q.2) 0 [some (aR 1 0 47), some (aR 8 0 t), some (aR 5 0 s), some (aT r), some (aI v4), some (aI v5)] [] σ
  refine aw_seq [(.aload_n 0, 1, ax0), (.aload_n 1, 1, ax0), (.aload_n 3, 1, ax0), (.iload 4, 2, ax0), (.iload 5, 2, ax0), (.aload_n 2, 1, ax0), (.iload 5, 2, ax0), (.aload_n 1, 1, ax0), (.iconst 3, 1, (axI 3)), (.iconst 3, 1, (axI 3))] (pc' := 13) (L' := [some (aR 1 0 47), some (aR 8 0 t), some (aR 5 0 s), some (aT r), some (aI v4), some (aI v5)]) (stk' := [aI 3, aI 3, aR 8 0 t, aI v5, aR 5 0 s, aI v5, aI v4, aT r, aR 8 0 t, aR 1 0 47]) (σ' := σ) (g := []) (by decide +kernel) rfl rfl ?_
  obtain ⟨r3, σ2, h1, h⟩ := bnd_some h
  refine aw_cV (P' := pX8_housesBy) (idx := 25) (d' := 1) (c := 8) (n := 0) (k := t) [aI 3, aI 3] [aI v5, aR 5 0 s, aI v5, aI v4, aT r, aR 8 0 t, aR 1 0 47] (ov := (some (aI r3))) (stk2 := [aI r3, aI v5, aR 5 0 s, aI v5, aI v4, aT r, aR 8 0 t, aR 1 0 47]) okp_X8_housesBy (by decide +kernel) ml_RX1_25 vok_X8_housesBy (by decide) rfl nar_X8_housesBy (by decide) rfl (Nat.le_of_ble_eq_true rfl) (ok_X8_housesBy h1) rfl ?_
  obtain ⟨r6, σ5, h4, h⟩ := bnd_some h
  refine aw_cV (P' := pX5_near) (idx := 40) (d' := 2) (c := 5) (n := 0) (k := s) [aI v5, aI r3] [aI v5, aI v4, aT r, aR 8 0 t, aR 1 0 47] (ov := (some (aI r6))) (stk2 := [aI r6, aI v5, aI v4, aT r, aR 8 0 t, aR 1 0 47]) okp_X5_near (by decide +kernel) ml_RX1_40 vok_X5_near (by decide) rfl nar_X5_near (by decide) rfl (Nat.le_of_ble_eq_true rfl) (ok_X5_near h4) rfl ?_
  obtain ⟨r9, σ8, h7, h⟩ := bnd_some h
  refine aw_cV (P' := pX1_rate) (idx := 61) (d' := 4) (c := 1) (n := 0) (k := 47) [aR 8 0 t, aT r, aI v4, aI v5, aI r6] [] (ov := (some (aI r9))) (stk2 := [aI r9]) okp_X1_rate (by decide +kernel) ml_RX1_61 vok_X1_rate (by decide) rfl nar_X1_rate (by decide) rfl (Nat.le_of_ble_eq_true rfl) (ok_X1_rate h7) rfl ?_
  cases h
  exact aw_iret rfl (by decide +kernel)
def f_X11_rateNow (κ : Kd) (v1 : Int32) (v2 : Int32) (σ : Sg) : Option (Int32 × Sg) :=
  bnd (f_X10_rule 1 σ) fun r3 σ2 =>
  bnd (f_X1_rateToday κ 2 8 r3 v1 v2 σ2) fun r6 σ5 =>
  some (r6, σ5)
set_option maxRecDepth 100000 in
set_option maxHeartbeats 4000000 in
theorem ok_X11_rateNow {κ : Kd} {v1 : Int32} {v2 : Int32} {σ : Sg} {q : (Int32 × Sg)} (h : f_X11_rateNow κ v1 v2 σ = some q) : AMet κ pX11_rateNow 6 [aR 11 0 0, aI v1, aI v2] σ (some (aI q.1), q.2) := by
  unfold f_X11_rateNow at h
  refine amet_of okp_X11_rateNow [(false, aR 11 0 0), (false, aI v1), (false, aI v2)] (List.forall_mem_cons.mpr ⟨rfl, List.forall_mem_cons.mpr ⟨rfl, List.forall_mem_cons.mpr ⟨rfl, (fun _ hn => absurd hn List.not_mem_nil)⟩⟩⟩) 0 rfl ?_
  show AW κ pX11_rateNow 6 (some (aI q.1), q.2) 0 [some (aR 11 0 0), some (aI v1), some (aI v2)] [] σ
  refine aw_seq [(.aload_n 0, 1, ax0), (.getfield 29, 3, (axF 11 3 (2, 47, 1, some 0))), (.aload_n 0, 1, ax0), (.getfield 10, 3, (axF 11 0 (2, 1, 10, some 0))), (.getfield 68, 3, (axF 10 0 (2, 1, 8, some 0))), (.aload_n 0, 1, ax0), (.getfield 10, 3, (axF 11 0 (2, 1, 10, some 0))), (.getfield 83, 3, (axF 10 1 (2, 7, 5, some 0))), (.aload_n 0, 1, ax0), (.getfield 10, 3, (axF 11 0 (2, 1, 10, some 0)))] (pc' := 22) (L' := [some (aR 11 0 0), some (aI v1), some (aI v2)]) (stk' := [aR 10 0 1, aR 5 0 8, aR 8 0 2, aR 1 0 47]) (σ' := σ) (g := []) (by decide +kernel) rfl rfl ?_
  obtain ⟨r3, σ2, h1, h⟩ := bnd_some h
  refine aw_cV (P' := pX10_rule) (idx := 143) (d' := 3) (c := 10) (n := 0) (k := 1) [] [aR 5 0 8, aR 8 0 2, aR 1 0 47] (ov := (some (aT r3))) (stk2 := [aT r3, aR 5 0 8, aR 8 0 2, aR 1 0 47]) okp_X10_rule (by decide +kernel) ml_RX11_143 vok_X10_rule (by decide) rfl nar_X10_rule (by decide) rfl (Nat.le_of_ble_eq_true rfl) (ok_X10_rule h1) rfl ?_
  refine aw_seq [(.iload_n 1, 1, ax0), (.iload_n 2, 1, ax0)] (pc' := 27) (L' := [some (aR 11 0 0), some (aI v1), some (aI v2)]) (stk' := [aI v2, aI v1, aT r3, aR 5 0 8, aR 8 0 2, aR 1 0 47]) (σ' := σ2) (g := []) (by decide +kernel) rfl rfl ?_
  obtain ⟨r6, σ5, h4, h⟩ := bnd_some h
  refine aw_cV (P' := pX1_rateToday) (idx := 367) (d' := 5) (c := 1) (n := 0) (k := 47) [aR 8 0 2, aR 5 0 8, aT r3, aI v1, aI v2] [] (ov := (some (aI r6))) (stk2 := [aI r6]) okp_X1_rateToday (by decide +kernel) ml_RX11_367 vok_X1_rateToday (by decide) rfl nar_X1_rateToday (by decide) rfl (Nat.le_of_ble_eq_true rfl) (ok_X1_rateToday h4) rfl ?_
  cases h
  exact aw_iret rfl (by decide +kernel)
def f_X11_of (κ : Kd) (v1 : Int32) (v2 : Int32) (σ : Sg) : Option (Int32 × Sg) :=
  bnd (f_X8_told 2 v1 σ) fun r3 σ2 =>
  if r3 = 0 then (
    some ((-1), σ2)
  ) else (
    if v2 = 0 then (
      grd (inb v1 8 && true) <|
      some ((σ2.1 3 (ix v1)), σ2)
    ) else (
    if v2 = 1 then (
      grd (inb v1 8 && true) <|
      some ((σ2.1 4 (ix v1)), σ2)
    ) else (
    if v2 = 2 then (
      grd (inb v1 8 && true) <|
      some ((σ2.1 5 (ix v1)), σ2)
    ) else (
    if v2 = 3 then (
      grd (inb v1 8 && true) <|
      some ((σ2.1 6 (ix v1)), σ2)
    ) else (
    if v2 = 4 then (
      bnd (f_X11_rateNow κ 0 v1 σ2) fun r6 σ5 =>
      some (r6, σ5)
    ) else (
    if v2 = 5 then (
      bnd (f_X11_rateNow κ 1 v1 σ2) fun r9 σ8 =>
      some (r9, σ8)
    ) else (
    if v2 = 6 then (
      bnd (f_X11_rateNow κ 2 v1 σ2) fun r12 σ11 =>
      some (r12, σ11)
    ) else (
    if v2 = 7 then (
      bnd (f_X8_housesBy 2 3 3 σ2) fun r15 σ14 =>
      bnd (f_X5_near 8 v1 r15 σ14) fun r18 σ17 =>
      some (r18, σ17)
    ) else (
      some ((-1), σ2)
    ))))))))
  )
set_option maxRecDepth 100000 in
set_option maxHeartbeats 4000000 in
theorem ok_X11_of {κ : Kd} {v1 : Int32} {v2 : Int32} {σ : Sg} {q : (Int32 × Sg)} (h : f_X11_of κ v1 v2 σ = some q) : AMet κ pX11_of 7 [aR 11 0 0, aI v1, aI v2] σ (some (aI q.1), q.2) := by
  unfold f_X11_of at h
  refine amet_of okp_X11_of [(false, aR 11 0 0), (false, aI v1), (false, aI v2)] (List.forall_mem_cons.mpr ⟨rfl, List.forall_mem_cons.mpr ⟨rfl, List.forall_mem_cons.mpr ⟨rfl, (fun _ hn => absurd hn List.not_mem_nil)⟩⟩⟩) 1 rfl ?_
  show AW κ pX11_of 7 (some (aI q.1), q.2) 0 [some (aR 11 0 0), some (aI v1), some (aI v2), none] [] σ
  refine aw_seq [(.aload_n 0, 1, ax0), (.getfield 10, 3, (axF 11 0 (2, 1, 10, some 0))), (.getfield 68, 3, (axF 10 0 (2, 1, 8, some 0))), (.iload_n 1, 1, ax0)] (pc' := 8) (L' := [some (aR 11 0 0), some (aI v1), some (aI v2), none]) (stk' := [aI v1, aR 8 0 2]) (σ' := σ) (g := []) (by decide +kernel) rfl rfl ?_
  obtain ⟨r3, σ2, h1, h⟩ := bnd_some h
  refine aw_cV (P' := pX8_told) (idx := 75) (d' := 1) (c := 8) (n := 0) (k := 2) [aI v1] [] (ov := (some (aI r3))) (stk2 := [aI r3]) okp_X8_told (by decide +kernel) ml_RX11_75 vok_X8_told (by decide) rfl nar_X8_told (by decide) rfl (Nat.le_of_ble_eq_true rfl) (ok_X8_told h1) rfl ?_
  refine aw_if_ne (off := 5) (tgt := 16) (by decide +kernel) (by decide) (fun c1 => ?_) (fun c1 => ?_)
  · rw [if_neg c1] at h
    refine aw_seq [(.aload_n 0, 1, ax0), (.getfield 10, 3, (axF 11 0 (2, 1, 10, some 0))), (.getfield 68, 3, (axF 10 0 (2, 1, 8, some 0))), (.astore_n 3, 1, ax0), (.iload_n 2, 1, ax0)] (pc' := 25) (L' := [some (aR 11 0 0), some (aI v1), some (aI v2), some (aR 8 0 2)]) (stk' := [aI v2]) (σ' := σ2) (g := []) (by decide +kernel) rfl rfl ?_
    refine aw_table (dflt := 114) (lo := 0) (hi := 7) (offs := #[47, 54, 61, 68, 75, 82, 89, 96]) (len := 47) (dt := 139) (by decide +kernel) [(0, 72), (1, 79), (2, 86), (3, 93), (4, 100), (5, 107), (6, 114), (7, 121)] (by decide +kernel) ?_
    refine awsw_cons (fun c1 => ?_) (fun c1 => ?_)
    · rw [if_pos c1] at h
      obtain ⟨hg, h⟩ := grd_some h
      refine aw_seq [(.aload_n 3, 1, ax0), (.getfield 194, 3, (axF 8 1 (2, 1, 13, some 8))), (.iload_n 1, 1, ax0), (.iaload, 1, ax0)] (pc' := 78) (L' := [some (aR 11 0 0), some (aI v1), some (aI v2), some (aR 8 0 2)]) (stk' := [aI (σ2.1 3 (ix v1))]) (σ' := σ2) (g := [inb v1 8]) (by decide +kernel) rfl hg ?_
      cases h
      exact aw_iret rfl (by decide +kernel)
    rw [if_neg c1] at h
    refine awsw_cons (fun c1 => ?_) (fun c1 => ?_)
    · rw [if_pos c1] at h
      obtain ⟨hg, h⟩ := grd_some h
      refine aw_seq [(.aload_n 3, 1, ax0), (.getfield 197, 3, (axF 8 2 (2, 2, 13, some 8))), (.iload_n 1, 1, ax0), (.iaload, 1, ax0)] (pc' := 85) (L' := [some (aR 11 0 0), some (aI v1), some (aI v2), some (aR 8 0 2)]) (stk' := [aI (σ2.1 4 (ix v1))]) (σ' := σ2) (g := [inb v1 8]) (by decide +kernel) rfl hg ?_
      cases h
      exact aw_iret rfl (by decide +kernel)
    rw [if_neg c1] at h
    refine awsw_cons (fun c1 => ?_) (fun c1 => ?_)
    · rw [if_pos c1] at h
      obtain ⟨hg, h⟩ := grd_some h
      refine aw_seq [(.aload_n 3, 1, ax0), (.getfield 200, 3, (axF 8 3 (2, 3, 13, some 8))), (.iload_n 1, 1, ax0), (.iaload, 1, ax0)] (pc' := 92) (L' := [some (aR 11 0 0), some (aI v1), some (aI v2), some (aR 8 0 2)]) (stk' := [aI (σ2.1 5 (ix v1))]) (σ' := σ2) (g := [inb v1 8]) (by decide +kernel) rfl hg ?_
      cases h
      exact aw_iret rfl (by decide +kernel)
    rw [if_neg c1] at h
    refine awsw_cons (fun c1 => ?_) (fun c1 => ?_)
    · rw [if_pos c1] at h
      obtain ⟨hg, h⟩ := grd_some h
      refine aw_seq [(.aload_n 3, 1, ax0), (.getfield 130, 3, (axF 8 4 (2, 4, 13, some 8))), (.iload_n 1, 1, ax0), (.iaload, 1, ax0)] (pc' := 99) (L' := [some (aR 11 0 0), some (aI v1), some (aI v2), some (aR 8 0 2)]) (stk' := [aI (σ2.1 6 (ix v1))]) (σ' := σ2) (g := [inb v1 8]) (by decide +kernel) rfl hg ?_
      cases h
      exact aw_iret rfl (by decide +kernel)
    rw [if_neg c1] at h
    refine awsw_cons (fun c1 => ?_) (fun c1 => ?_)
    · rw [if_pos c1] at h
      refine aw_seq [(.aload_n 0, 1, ax0), (.iconst 0, 1, (axI 0)), (.iload_n 1, 1, ax0)] (pc' := 103) (L' := [some (aR 11 0 0), some (aI v1), some (aI v2), some (aR 8 0 2)]) (stk' := [aI v1, aI 0, aR 11 0 0]) (σ' := σ2) (g := []) (by decide +kernel) rfl rfl ?_
      obtain ⟨r6, σ5, h4, h⟩ := bnd_some h
      refine aw_cV (P' := pX11_rateNow) (idx := 203) (d' := 6) (c := 11) (n := 0) (k := 0) [aI 0, aI v1] [] (ov := (some (aI r6))) (stk2 := [aI r6]) okp_X11_rateNow (by decide +kernel) ml_RX11_203 vok_X11_rateNow (by decide) rfl nar_X11_rateNow (by decide) rfl (Nat.le_of_ble_eq_true rfl) (ok_X11_rateNow h4) rfl ?_
      cases h
      exact aw_iret rfl (by decide +kernel)
    rw [if_neg c1] at h
    refine awsw_cons (fun c1 => ?_) (fun c1 => ?_)
    · rw [if_pos c1] at h
      refine aw_seq [(.aload_n 0, 1, ax0), (.iconst 1, 1, (axI 1)), (.iload_n 1, 1, ax0)] (pc' := 110) (L' := [some (aR 11 0 0), some (aI v1), some (aI v2), some (aR 8 0 2)]) (stk' := [aI v1, aI 1, aR 11 0 0]) (σ' := σ2) (g := []) (by decide +kernel) rfl rfl ?_
      obtain ⟨r9, σ8, h7, h⟩ := bnd_some h
      refine aw_cV (P' := pX11_rateNow) (idx := 203) (d' := 6) (c := 11) (n := 0) (k := 0) [aI 1, aI v1] [] (ov := (some (aI r9))) (stk2 := [aI r9]) okp_X11_rateNow (by decide +kernel) ml_RX11_203 vok_X11_rateNow (by decide) rfl nar_X11_rateNow (by decide) rfl (Nat.le_of_ble_eq_true rfl) (ok_X11_rateNow h7) rfl ?_
      cases h
      exact aw_iret rfl (by decide +kernel)
    rw [if_neg c1] at h
    refine awsw_cons (fun c1 => ?_) (fun c1 => ?_)
    · rw [if_pos c1] at h
      refine aw_seq [(.aload_n 0, 1, ax0), (.iconst 2, 1, (axI 2)), (.iload_n 1, 1, ax0)] (pc' := 117) (L' := [some (aR 11 0 0), some (aI v1), some (aI v2), some (aR 8 0 2)]) (stk' := [aI v1, aI 2, aR 11 0 0]) (σ' := σ2) (g := []) (by decide +kernel) rfl rfl ?_
      obtain ⟨r12, σ11, h10, h⟩ := bnd_some h
      refine aw_cV (P' := pX11_rateNow) (idx := 203) (d' := 6) (c := 11) (n := 0) (k := 0) [aI 2, aI v1] [] (ov := (some (aI r12))) (stk2 := [aI r12]) okp_X11_rateNow (by decide +kernel) ml_RX11_203 vok_X11_rateNow (by decide) rfl nar_X11_rateNow (by decide) rfl (Nat.le_of_ble_eq_true rfl) (ok_X11_rateNow h10) rfl ?_
      cases h
      exact aw_iret rfl (by decide +kernel)
    rw [if_neg c1] at h
    refine awsw_cons (fun c1 => ?_) (fun c1 => ?_)
    · rw [if_pos c1] at h
      refine aw_seq [(.aload_n 0, 1, ax0), (.getfield 10, 3, (axF 11 0 (2, 1, 10, some 0))), (.getfield 83, 3, (axF 10 1 (2, 7, 5, some 0))), (.iload_n 1, 1, ax0), (.aload_n 3, 1, ax0), (.iconst 3, 1, (axI 3)), (.iconst 3, 1, (axI 3))] (pc' := 132) (L' := [some (aR 11 0 0), some (aI v1), some (aI v2), some (aR 8 0 2)]) (stk' := [aI 3, aI 3, aR 8 0 2, aI v1, aR 5 0 8]) (σ' := σ2) (g := []) (by decide +kernel) rfl rfl ?_
      obtain ⟨r15, σ14, h13, h⟩ := bnd_some h
      refine aw_cV (P' := pX8_housesBy) (idx := 206) (d' := 1) (c := 8) (n := 0) (k := 2) [aI 3, aI 3] [aI v1, aR 5 0 8] (ov := (some (aI r15))) (stk2 := [aI r15, aI v1, aR 5 0 8]) okp_X8_housesBy (by decide +kernel) ml_RX11_206 vok_X8_housesBy (by decide) rfl nar_X8_housesBy (by decide) rfl (Nat.le_of_ble_eq_true rfl) (ok_X8_housesBy h13) rfl ?_
      obtain ⟨r18, σ17, h16, h⟩ := bnd_some h
      refine aw_cV (P' := pX5_near) (idx := 209) (d' := 2) (c := 5) (n := 0) (k := 8) [aI v1, aI r15] [] (ov := (some (aI r18))) (stk2 := [aI r18]) okp_X5_near (by decide +kernel) ml_RX11_209 vok_X5_near (by decide) rfl nar_X5_near (by decide) rfl (Nat.le_of_ble_eq_true rfl) (ok_X5_near h16) rfl ?_
      cases h
      exact aw_iret rfl (by decide +kernel)
    rw [if_neg c1] at h
    refine awsw_nil ?_
    refine aw_seq [(.iconst (-1), 1, (axI (-1)))] (pc' := 140) (L' := [some (aR 11 0 0), some (aI v1), some (aI v2), some (aR 8 0 2)]) (stk' := [aI (-1)]) (σ' := σ2) (g := []) (by decide +kernel) rfl rfl ?_
    cases h
    exact aw_iret rfl (by decide +kernel)
  · rw [if_pos c1] at h
    refine aw_seq [(.iconst (-1), 1, (axI (-1)))] (pc' := 15) (L' := [some (aR 11 0 0), some (aI v1), some (aI v2), none]) (stk' := [aI (-1)]) (σ' := σ2) (g := []) (by decide +kernel) rfl rfl ?_
    cases h
    exact aw_iret rfl (by decide +kernel)
def f_X11_is_61   (s0 : Int32) (σ : Sg) : Option (Int32 × Sg) :=
  some (s0, σ)
set_option maxRecDepth 100000 in
set_option maxHeartbeats 4000000 in
theorem ok_X11_is_61 {κ : Kd}    : ∀ (s0 : Int32) (σ : Sg) (q : (Int32 × Sg)), f_X11_is_61 s0 σ = some q → AW κ pX11_is 2 (some (aI q.1), q.2) 61 [none, none] [aI s0] σ := by
  intro s0 σ q h
  unfold f_X11_is_61 at h
  cases h
  exact aw_iret rfl (by decide +kernel)
def f_X11_is (v1 : Int32) (σ : Sg) : Option (Int32 × Sg) :=
  if v1 = 0 then (
    some ((σ.1 2 5), σ)
  ) else (
  if v1 = 1 then (
    bnd (f_X8_bell 2 σ) fun r3 σ2 =>
    if r3 = 0 then (
      f_X11_is_61 0 σ2
    ) else (
      f_X11_is_61 1 σ2
    )
  ) else (
  if v1 = 2 then (
    some ((σ.1 2 6), σ)
  ) else (
  if v1 = 3 then (
    some ((σ.1 2 7), σ)
  ) else (
    some ((-2), σ)
  ))))
set_option maxRecDepth 100000 in
set_option maxHeartbeats 4000000 in
theorem ok_X11_is {κ : Kd} {v1 : Int32} {σ : Sg} {q : (Int32 × Sg)} (h : f_X11_is v1 σ = some q) : AMet κ pX11_is 2 [aR 11 0 0, aI v1] σ (some (aI q.1), q.2) := by
  unfold f_X11_is at h
  refine amet_of okp_X11_is [(false, aR 11 0 0), (false, aI v1)] (List.forall_mem_cons.mpr ⟨rfl, List.forall_mem_cons.mpr ⟨rfl, (fun _ hn => absurd hn List.not_mem_nil)⟩⟩) 0 rfl ?_
  show AW κ pX11_is 2 (some (aI q.1), q.2) 0 [some (aR 11 0 0), some (aI v1)] [] σ
  refine aw_seq [(.iload_n 1, 1, ax0)] (pc' := 1) (L' := [some (aR 11 0 0), some (aI v1)]) (stk' := [aI v1]) (σ' := σ) (g := []) (by decide +kernel) rfl rfl ?_
  refine aw_table (dflt := 83) (lo := 0) (hi := 3) (offs := #[31, 42, 61, 72]) (len := 31) (dt := 84) (by decide +kernel) [(0, 32), (1, 43), (2, 62), (3, 73)] (by decide +kernel) ?_
  refine awsw_cons (fun c1 => ?_) (fun c1 => ?_)
  · rw [if_pos c1] at h
    refine aw_seq [(.aload_n 0, 1, ax0), (.getfield 10, 3, (axF 11 0 (2, 1, 10, some 0))), (.getfield 68, 3, (axF 10 0 (2, 1, 8, some 0))), (.getfield 151, 3, (axF 8 5 (0, 0, 0, none)))] (pc' := 42) (L' := [some (aR 11 0 0), some (aI v1)]) (stk' := [aI (σ.1 2 5)]) (σ' := σ) (g := []) (by decide +kernel) rfl rfl ?_
    cases h
    exact aw_iret rfl (by decide +kernel)
  rw [if_neg c1] at h
  refine awsw_cons (fun c1 => ?_) (fun c1 => ?_)
  · rw [if_pos c1] at h
    refine aw_seq [(.aload_n 0, 1, ax0), (.getfield 10, 3, (axF 11 0 (2, 1, 10, some 0))), (.getfield 68, 3, (axF 10 0 (2, 1, 8, some 0)))] (pc' := 50) (L' := [some (aR 11 0 0), some (aI v1)]) (stk' := [aR 8 0 2]) (σ' := σ) (g := []) (by decide +kernel) rfl rfl ?_
    obtain ⟨r3, σ2, h1, h⟩ := bnd_some h
    refine aw_cV (P' := pX8_bell) (idx := 212) (d' := 1) (c := 8) (n := 0) (k := 2) [] [] (ov := (some (aI r3))) (stk2 := [aI r3]) okp_X8_bell (by decide +kernel) ml_RX11_212 vok_X8_bell (by decide) rfl nar_X8_bell (by decide) rfl (Nat.le_of_ble_eq_true rfl) (ok_X8_bell h1) rfl ?_
    refine aw_if_eq (off := 7) (tgt := 60) (by decide +kernel) (by decide) (fun c1 => ?_) (fun c1 => ?_)
    · rw [if_pos c1] at h
      refine aw_seq [(.iconst 0, 1, (axI 0))] (pc' := 61) (L' := [some (aR 11 0 0), some (aI v1)]) (stk' := [aI 0]) (σ' := σ2) (g := []) (by decide +kernel) rfl rfl ?_
      refine aw_forget (L' := [none, none]) (lsub_n (lsub_n (lsub_0))) ?_
      exact ok_X11_is_61 0 σ2 _ h
    · rw [if_neg c1] at h
      refine aw_seq [(.iconst 1, 1, (axI 1))] (pc' := 57) (L' := [some (aR 11 0 0), some (aI v1)]) (stk' := [aI 1]) (σ' := σ2) (g := []) (by decide +kernel) rfl rfl ?_
      refine aw_goto (off := 4) (tgt := 61) (by decide +kernel) (by decide) ?_
      refine aw_forget (L' := [none, none]) (lsub_n (lsub_n (lsub_0))) ?_
      exact ok_X11_is_61 1 σ2 _ h
  rw [if_neg c1] at h
  refine awsw_cons (fun c1 => ?_) (fun c1 => ?_)
  · rw [if_pos c1] at h
    refine aw_seq [(.aload_n 0, 1, ax0), (.getfield 10, 3, (axF 11 0 (2, 1, 10, some 0))), (.getfield 68, 3, (axF 10 0 (2, 1, 8, some 0))), (.getfield 216, 3, (axF 8 6 (0, 0, 0, none)))] (pc' := 72) (L' := [some (aR 11 0 0), some (aI v1)]) (stk' := [aI (σ.1 2 6)]) (σ' := σ) (g := []) (by decide +kernel) rfl rfl ?_
    cases h
    exact aw_iret rfl (by decide +kernel)
  rw [if_neg c1] at h
  refine awsw_cons (fun c1 => ?_) (fun c1 => ?_)
  · rw [if_pos c1] at h
    refine aw_seq [(.aload_n 0, 1, ax0), (.getfield 10, 3, (axF 11 0 (2, 1, 10, some 0))), (.getfield 68, 3, (axF 10 0 (2, 1, 8, some 0))), (.getfield 178, 3, (axF 8 7 (0, 0, 0, none)))] (pc' := 83) (L' := [some (aR 11 0 0), some (aI v1)]) (stk' := [aI (σ.1 2 7)]) (σ' := σ) (g := []) (by decide +kernel) rfl rfl ?_
    cases h
    exact aw_iret rfl (by decide +kernel)
  rw [if_neg c1] at h
  refine awsw_nil ?_
  refine aw_seq [(.bipush (-2), 2, (axI (-2)))] (pc' := 86) (L' := [some (aR 11 0 0), some (aI v1)]) (stk' := [aI (-2)]) (σ' := σ) (g := []) (by decide +kernel) rfl rfl ?_
  cases h
  exact aw_iret rfl (by decide +kernel)
def f_X8_hourOf (v0 : Int32) (σ : Sg) : Option (Int32 × Sg) :=
  some ((shr v0 6), σ)
set_option maxRecDepth 100000 in
set_option maxHeartbeats 4000000 in
theorem ok_X8_hourOf {κ : Kd} {v0 : Int32} {σ : Sg} {q : (Int32 × Sg)} (h : f_X8_hourOf v0 σ = some q) : AMet κ pX8_hourOf 1 [aI v0] σ (some (aI q.1), q.2) := by
  unfold f_X8_hourOf at h
  refine amet_of okp_X8_hourOf [(false, aI v0)] (List.forall_mem_cons.mpr ⟨rfl, (fun _ hn => absurd hn List.not_mem_nil)⟩) 0 rfl ?_
  show AW κ pX8_hourOf 1 (some (aI q.1), q.2) 0 [some (aI v0)] [] σ
  refine aw_seq [(.iload_n 0, 1, ax0), (.bipush 6, 2, (axI 6)), (.ishr, 1, ax0)] (pc' := 4) (L' := [some (aI v0)]) (stk' := [aI (shr v0 6)]) (σ' := σ) (g := []) (by decide +kernel) rfl rfl ?_
  cases h
  exact aw_iret rfl (by decide +kernel)
def f_X8_houseOf (v0 : Int32) (σ : Sg) : Option (Int32 × Sg) :=
  some (((shr v0 3) &&& 7), σ)
set_option maxRecDepth 100000 in
set_option maxHeartbeats 4000000 in
theorem ok_X8_houseOf {κ : Kd} {v0 : Int32} {σ : Sg} {q : (Int32 × Sg)} (h : f_X8_houseOf v0 σ = some q) : AMet κ pX8_houseOf 1 [aI v0] σ (some (aI q.1), q.2) := by
  unfold f_X8_houseOf at h
  refine amet_of okp_X8_houseOf [(false, aI v0)] (List.forall_mem_cons.mpr ⟨rfl, (fun _ hn => absurd hn List.not_mem_nil)⟩) 0 rfl ?_
  show AW κ pX8_houseOf 1 (some (aI q.1), q.2) 0 [some (aI v0)] [] σ
  refine aw_seq [(.iload_n 0, 1, ax0), (.iconst 3, 1, (axI 3)), (.ishr, 1, ax0), (.bipush 7, 2, (axI 7)), (.iand, 1, ax0)] (pc' := 6) (L' := [some (aI v0)]) (stk' := [aI ((shr v0 3) &&& 7)]) (σ' := σ) (g := []) (by decide +kernel) rfl rfl ?_
  cases h
  exact aw_iret rfl (by decide +kernel)
def f_X8_whatOf (v0 : Int32) (σ : Sg) : Option (Int32 × Sg) :=
  some ((v0 &&& 7), σ)
set_option maxRecDepth 100000 in
set_option maxHeartbeats 4000000 in
theorem ok_X8_whatOf {κ : Kd} {v0 : Int32} {σ : Sg} {q : (Int32 × Sg)} (h : f_X8_whatOf v0 σ = some q) : AMet κ pX8_whatOf 1 [aI v0] σ (some (aI q.1), q.2) := by
  unfold f_X8_whatOf at h
  refine amet_of okp_X8_whatOf [(false, aI v0)] (List.forall_mem_cons.mpr ⟨rfl, (fun _ hn => absurd hn List.not_mem_nil)⟩) 0 rfl ?_
  show AW κ pX8_whatOf 1 (some (aI q.1), q.2) 0 [some (aI v0)] [] σ
  refine aw_seq [(.iload_n 0, 1, ax0), (.bipush 7, 2, (axI 7)), (.iand, 1, ax0)] (pc' := 4) (L' := [some (aI v0)]) (stk' := [aI (v0 &&& 7)]) (σ' := σ) (g := []) (by decide +kernel) rfl rfl ?_
  cases h
  exact aw_iret rfl (by decide +kernel)
def f_X11_book (v1 : Int32) (v2 : Int32) (σ : Sg) : Option (Int32 × Sg) :=
  if v1 = (-1) then (
    some ((σ.1 2 9), σ)
  ) else (
    bnd (f_X11_within v1 0 ((σ.1 2 9) - 1) σ) fun r3 σ2 =>
    if r3 = 0 then (
      some ((-2), σ2)
    ) else (
      grd (inb v1 30 && true) <|
      if v2 = 0 then (
        bnd (f_X8_hourOf (σ2.1 7 (ix v1)) σ2) fun r6 σ5 =>
        some (r6, σ5)
      ) else (
      if v2 = 1 then (
        bnd (f_X8_houseOf (σ2.1 7 (ix v1)) σ2) fun r9 σ8 =>
        some (r9, σ8)
      ) else (
      if v2 = 2 then (
        bnd (f_X8_whatOf (σ2.1 7 (ix v1)) σ2) fun r12 σ11 =>
        some (r12, σ11)
      ) else (
        some ((-2), σ2)
      )))
    )
  )
set_option maxRecDepth 100000 in
set_option maxHeartbeats 4000000 in
theorem ok_X11_book {κ : Kd} {v1 : Int32} {v2 : Int32} {σ : Sg} {q : (Int32 × Sg)} (h : f_X11_book v1 v2 σ = some q) : AMet κ pX11_book 2 [aR 11 0 0, aI v1, aI v2] σ (some (aI q.1), q.2) := by
  unfold f_X11_book at h
  refine amet_of okp_X11_book [(false, aR 11 0 0), (false, aI v1), (false, aI v2)] (List.forall_mem_cons.mpr ⟨rfl, List.forall_mem_cons.mpr ⟨rfl, List.forall_mem_cons.mpr ⟨rfl, (fun _ hn => absurd hn List.not_mem_nil)⟩⟩⟩) 1 rfl ?_
  show AW κ pX11_book 2 (some (aI q.1), q.2) 0 [some (aR 11 0 0), some (aI v1), some (aI v2), none] [] σ
  refine aw_seq [(.iload_n 1, 1, ax0), (.iconst (-1), 1, (axI (-1)))] (pc' := 2) (L' := [some (aR 11 0 0), some (aI v1), some (aI v2), none]) (stk' := [aI (-1), aI v1]) (σ' := σ) (g := []) (by decide +kernel) rfl rfl ?_
  refine aw_icmp_ne (off := 14) (tgt := 16) (by decide +kernel) (by decide) (fun c1 => ?_) (fun c1 => ?_)
  · rw [if_neg c1] at h
    refine aw_seq [(.iload_n 1, 1, ax0), (.iconst 0, 1, (axI 0)), (.aload_n 0, 1, ax0), (.getfield 10, 3, (axF 11 0 (2, 1, 10, some 0))), (.getfield 68, 3, (axF 10 0 (2, 1, 8, some 0))), (.getfield 219, 3, (axF 8 9 (0, 0, 0, none))), (.iconst 1, 1, (axI 1)), (.isub, 1, ax0)] (pc' := 30) (L' := [some (aR 11 0 0), some (aI v1), some (aI v2), none]) (stk' := [aI ((σ.1 2 9) - 1), aI 0, aI v1]) (σ' := σ) (g := []) (by decide +kernel) rfl rfl ?_
    obtain ⟨r3, σ2, h1, h⟩ := bnd_some h
    refine aw_cS (P' := pX11_within) (idx := 79) (d' := 1) [aI v1, aI 0, aI ((σ.1 2 9) - 1)] [] (ov := (some (aI r3))) (stk2 := [aI r3]) okp_X11_within (by decide +kernel) ml_RX11_79 tok_X11_within nar_X11_within (by decide) rfl (Nat.le_of_ble_eq_true rfl) (ok_X11_within h1) rfl ?_
    refine aw_if_ne (off := 6) (tgt := 39) (by decide +kernel) (by decide) (fun c1 => ?_) (fun c1 => ?_)
    · rw [if_neg c1] at h
      obtain ⟨hg, h⟩ := grd_some h
      refine aw_seq [(.aload_n 0, 1, ax0), (.getfield 10, 3, (axF 11 0 (2, 1, 10, some 0))), (.getfield 68, 3, (axF 10 0 (2, 1, 8, some 0))), (.getfield 222, 3, (axF 8 8 (2, 5, 13, some 30))), (.iload_n 1, 1, ax0), (.iaload, 1, ax0), (.istore_n 3, 1, ax0), (.iload_n 2, 1, ax0)] (pc' := 53) (L' := [some (aR 11 0 0), some (aI v1), some (aI v2), some (aI (σ2.1 7 (ix v1)))]) (stk' := [aI v2]) (σ' := σ2) (g := [inb v1 30]) (by decide +kernel) rfl hg ?_
      refine aw_table (dflt := 42) (lo := 0) (hi := 2) (offs := #[27, 32, 37]) (len := 27) (dt := 95) (by decide +kernel) [(0, 80), (1, 85), (2, 90)] (by decide +kernel) ?_
      refine awsw_cons (fun c1 => ?_) (fun c1 => ?_)
      · rw [if_pos c1] at h
        refine aw_seq [(.iload_n 3, 1, ax0)] (pc' := 81) (L' := [some (aR 11 0 0), some (aI v1), some (aI v2), some (aI (σ2.1 7 (ix v1)))]) (stk' := [aI (σ2.1 7 (ix v1))]) (σ' := σ2) (g := []) (by decide +kernel) rfl rfl ?_
        obtain ⟨r6, σ5, h4, h⟩ := bnd_some h
        refine aw_cS (P' := pX8_hourOf) (idx := 225) (d' := 1) [aI (σ2.1 7 (ix v1))] [] (ov := (some (aI r6))) (stk2 := [aI r6]) okp_X8_hourOf (by decide +kernel) ml_RX11_225 tok_X8_hourOf nar_X8_hourOf (by decide) rfl (Nat.le_of_ble_eq_true rfl) (ok_X8_hourOf h4) rfl ?_
        cases h
        exact aw_iret rfl (by decide +kernel)
      rw [if_neg c1] at h
      refine awsw_cons (fun c1 => ?_) (fun c1 => ?_)
      · rw [if_pos c1] at h
        refine aw_seq [(.iload_n 3, 1, ax0)] (pc' := 86) (L' := [some (aR 11 0 0), some (aI v1), some (aI v2), some (aI (σ2.1 7 (ix v1)))]) (stk' := [aI (σ2.1 7 (ix v1))]) (σ' := σ2) (g := []) (by decide +kernel) rfl rfl ?_
        obtain ⟨r9, σ8, h7, h⟩ := bnd_some h
        refine aw_cS (P' := pX8_houseOf) (idx := 228) (d' := 1) [aI (σ2.1 7 (ix v1))] [] (ov := (some (aI r9))) (stk2 := [aI r9]) okp_X8_houseOf (by decide +kernel) ml_RX11_228 tok_X8_houseOf nar_X8_houseOf (by decide) rfl (Nat.le_of_ble_eq_true rfl) (ok_X8_houseOf h7) rfl ?_
        cases h
        exact aw_iret rfl (by decide +kernel)
      rw [if_neg c1] at h
      refine awsw_cons (fun c1 => ?_) (fun c1 => ?_)
      · rw [if_pos c1] at h
        refine aw_seq [(.iload_n 3, 1, ax0)] (pc' := 91) (L' := [some (aR 11 0 0), some (aI v1), some (aI v2), some (aI (σ2.1 7 (ix v1)))]) (stk' := [aI (σ2.1 7 (ix v1))]) (σ' := σ2) (g := []) (by decide +kernel) rfl rfl ?_
        obtain ⟨r12, σ11, h10, h⟩ := bnd_some h
        refine aw_cS (P' := pX8_whatOf) (idx := 231) (d' := 1) [aI (σ2.1 7 (ix v1))] [] (ov := (some (aI r12))) (stk2 := [aI r12]) okp_X8_whatOf (by decide +kernel) ml_RX11_231 tok_X8_whatOf nar_X8_whatOf (by decide) rfl (Nat.le_of_ble_eq_true rfl) (ok_X8_whatOf h10) rfl ?_
        cases h
        exact aw_iret rfl (by decide +kernel)
      rw [if_neg c1] at h
      refine awsw_nil ?_
      refine aw_seq [(.bipush (-2), 2, (axI (-2)))] (pc' := 97) (L' := [some (aR 11 0 0), some (aI v1), some (aI v2), some (aI (σ2.1 7 (ix v1)))]) (stk' := [aI (-2)]) (σ' := σ2) (g := []) (by decide +kernel) rfl rfl ?_
      cases h
      exact aw_iret rfl (by decide +kernel)
    · rw [if_pos c1] at h
      refine aw_seq [(.bipush (-2), 2, (axI (-2)))] (pc' := 38) (L' := [some (aR 11 0 0), some (aI v1), some (aI v2), none]) (stk' := [aI (-2)]) (σ' := σ2) (g := []) (by decide +kernel) rfl rfl ?_
      cases h
      exact aw_iret rfl (by decide +kernel)
  · rw [if_pos c1] at h
    refine aw_seq [(.aload_n 0, 1, ax0), (.getfield 10, 3, (axF 11 0 (2, 1, 10, some 0))), (.getfield 68, 3, (axF 10 0 (2, 1, 8, some 0))), (.getfield 219, 3, (axF 8 9 (0, 0, 0, none)))] (pc' := 15) (L' := [some (aR 11 0 0), some (aI v1), some (aI v2), none]) (stk' := [aI (σ.1 2 9)]) (σ' := σ) (g := []) (by decide +kernel) rfl rfl ?_
    cases h
    exact aw_iret rfl (by decide +kernel)
def f_X8_copyFrom (t : Nat) (t2 : Nat) (σ : Sg) : Option Sg :=
  ltσ (wI σ t 0 (σ.1 t2 0)) fun σ1 =>
  grd (cpg 0 0 8 8 8) <|
  ltσ (wC σ1 (t2 + 1) (ix 0) (t + 1) (ix 0) (ix 8)) fun σ3 =>
  grd (cpg 0 0 8 8 8) <|
  ltσ (wC σ3 (t2 + 2) (ix 0) (t + 2) (ix 0) (ix 8)) fun σ5 =>
  grd (cpg 0 0 8 8 8) <|
  ltσ (wC σ5 (t2 + 3) (ix 0) (t + 3) (ix 0) (ix 8)) fun σ7 =>
  grd (cpg 0 0 8 8 8) <|
  ltσ (wC σ7 (t2 + 4) (ix 0) (t + 4) (ix 0) (ix 8)) fun σ9 =>
  ltσ (wI σ9 t 5 (σ9.1 t2 5)) fun σ11 =>
  ltσ (wI σ11 t 6 (σ11.1 t2 6)) fun σ13 =>
  ltσ (wI σ13 t 7 (σ13.1 t2 7)) fun σ15 =>
  grd (cpg 0 0 30 30 30) <|
  ltσ (wC σ15 (t2 + 5) (ix 0) (t + 5) (ix 0) (ix 30)) fun σ17 =>
  ltσ (wI σ17 t 9 (σ17.1 t2 9)) fun σ19 =>
  some σ19
set_option maxRecDepth 100000 in
set_option maxHeartbeats 4000000 in
theorem ok_X8_copyFrom {κ : Kd} {t : Nat} {t2 : Nat} {σ : Sg} {q : Sg} (h : f_X8_copyFrom t t2 σ = some q) : AMet κ pX8_copyFrom 2 [aR 8 0 t, aR 8 0 t2] σ (none, q) := by
  unfold f_X8_copyFrom at h
  refine amet_of okp_X8_copyFrom [(false, aR 8 0 t), (false, aR 8 0 t2)] (List.forall_mem_cons.mpr ⟨rfl, List.forall_mem_cons.mpr ⟨rfl, (fun _ hn => absurd hn List.not_mem_nil)⟩⟩) 0 rfl ?_
  show AW κ pX8_copyFrom 2 (none, q) 0 [some (aR 8 0 t), some (aR 8 0 t2)] [] σ
  obtain ⟨σ1, e2, h⟩ := ltσ_some h
  refine aw_seq [(.aload_n 0, 1, ax0), (.aload_n 1, 1, ax0), (.getfield 31, 3, (axF 8 0 (0, 0, 0, none))), (.putfield 31, 3, (axF 8 0 (0, 0, 0, none)))] (pc' := 8) (L' := [some (aR 8 0 t), some (aR 8 0 t2)]) (stk' := []) (σ' := σ1) (g := []) (by decide +kernel) (by rw [e2]; rfl) rfl ?_
  refine aw_seq [(.aload_n 1, 1, ax0), (.getfield 11, 3, (axF 8 1 (2, 1, 13, some 8))), (.iconst 0, 1, (axI 0)), (.aload_n 0, 1, ax0), (.getfield 11, 3, (axF 8 1 (2, 1, 13, some 8))), (.iconst 0, 1, (axI 0)), (.bipush 8, 2, (axI 8))] (pc' := 20) (L' := [some (aR 8 0 t), some (aR 8 0 t2)]) (stk' := [aI 8, aI 0, aR 13 8 (t + 1), aI 0, aR 13 8 (t2 + 1)]) (σ' := σ1) (g := []) (by decide +kernel) rfl rfl ?_
  obtain ⟨hg, h⟩ := grd_some h
  obtain ⟨σ3, e4, h⟩ := ltσ_some h
  refine aw_copyI (idx := 34) (by decide) (Nat.le_of_ble_eq_true rfl) jw_copy ml_RX8_34 (by decide +kernel) hg ?_
  rw [← e4]
  refine aw_seq [(.aload_n 1, 1, ax0), (.getfield 15, 3, (axF 8 2 (2, 2, 13, some 8))), (.iconst 0, 1, (axI 0)), (.aload_n 0, 1, ax0), (.getfield 15, 3, (axF 8 2 (2, 2, 13, some 8))), (.iconst 0, 1, (axI 0)), (.bipush 8, 2, (axI 8))] (pc' := 35) (L' := [some (aR 8 0 t), some (aR 8 0 t2)]) (stk' := [aI 8, aI 0, aR 13 8 (t + 2), aI 0, aR 13 8 (t2 + 2)]) (σ' := σ3) (g := []) (by decide +kernel) rfl rfl ?_
  obtain ⟨hg, h⟩ := grd_some h
  obtain ⟨σ5, e6, h⟩ := ltσ_some h
  refine aw_copyI (idx := 34) (by decide) (Nat.le_of_ble_eq_true rfl) jw_copy ml_RX8_34 (by decide +kernel) hg ?_
  rw [← e6]
  refine aw_seq [(.aload_n 1, 1, ax0), (.getfield 18, 3, (axF 8 3 (2, 3, 13, some 8))), (.iconst 0, 1, (axI 0)), (.aload_n 0, 1, ax0), (.getfield 18, 3, (axF 8 3 (2, 3, 13, some 8))), (.iconst 0, 1, (axI 0)), (.bipush 8, 2, (axI 8))] (pc' := 50) (L' := [some (aR 8 0 t), some (aR 8 0 t2)]) (stk' := [aI 8, aI 0, aR 13 8 (t + 3), aI 0, aR 13 8 (t2 + 3)]) (σ' := σ5) (g := []) (by decide +kernel) rfl rfl ?_
  obtain ⟨hg, h⟩ := grd_some h
  obtain ⟨σ7, e8, h⟩ := ltσ_some h
  refine aw_copyI (idx := 34) (by decide) (Nat.le_of_ble_eq_true rfl) jw_copy ml_RX8_34 (by decide +kernel) hg ?_
  rw [← e8]
  refine aw_seq [(.aload_n 1, 1, ax0), (.getfield 21, 3, (axF 8 4 (2, 4, 13, some 8))), (.iconst 0, 1, (axI 0)), (.aload_n 0, 1, ax0), (.getfield 21, 3, (axF 8 4 (2, 4, 13, some 8))), (.iconst 0, 1, (axI 0)), (.bipush 8, 2, (axI 8))] (pc' := 65) (L' := [some (aR 8 0 t), some (aR 8 0 t2)]) (stk' := [aI 8, aI 0, aR 13 8 (t + 4), aI 0, aR 13 8 (t2 + 4)]) (σ' := σ7) (g := []) (by decide +kernel) rfl rfl ?_
  obtain ⟨hg, h⟩ := grd_some h
  obtain ⟨σ9, e10, h⟩ := ltσ_some h
  refine aw_copyI (idx := 34) (by decide) (Nat.le_of_ble_eq_true rfl) jw_copy ml_RX8_34 (by decide +kernel) hg ?_
  rw [← e10]
  obtain ⟨σ11, e12, h⟩ := ltσ_some h
  refine aw_seq [(.aload_n 0, 1, ax0), (.aload_n 1, 1, ax0), (.getfield 40, 3, (axF 8 5 (0, 0, 0, none))), (.putfield 40, 3, (axF 8 5 (0, 0, 0, none)))] (pc' := 76) (L' := [some (aR 8 0 t), some (aR 8 0 t2)]) (stk' := []) (σ' := σ11) (g := []) (by decide +kernel) (by rw [e12]; rfl) rfl ?_
  obtain ⟨σ13, e14, h⟩ := ltσ_some h
  refine aw_seq [(.aload_n 0, 1, ax0), (.aload_n 1, 1, ax0), (.getfield 43, 3, (axF 8 6 (0, 0, 0, none))), (.putfield 43, 3, (axF 8 6 (0, 0, 0, none)))] (pc' := 84) (L' := [some (aR 8 0 t), some (aR 8 0 t2)]) (stk' := []) (σ' := σ13) (g := []) (by decide +kernel) (by rw [e14]; rfl) rfl ?_
  obtain ⟨σ15, e16, h⟩ := ltσ_some h
  refine aw_seq [(.aload_n 0, 1, ax0), (.aload_n 1, 1, ax0), (.getfield 24, 3, (axF 8 7 (0, 0, 0, none))), (.putfield 24, 3, (axF 8 7 (0, 0, 0, none)))] (pc' := 92) (L' := [some (aR 8 0 t), some (aR 8 0 t2)]) (stk' := []) (σ' := σ15) (g := []) (by decide +kernel) (by rw [e16]; rfl) rfl ?_
  refine aw_seq [(.aload_n 1, 1, ax0), (.getfield 28, 3, (axF 8 8 (2, 5, 13, some 30))), (.iconst 0, 1, (axI 0)), (.aload_n 0, 1, ax0), (.getfield 28, 3, (axF 8 8 (2, 5, 13, some 30))), (.iconst 0, 1, (axI 0)), (.bipush 30, 2, (axI 30))] (pc' := 104) (L' := [some (aR 8 0 t), some (aR 8 0 t2)]) (stk' := [aI 30, aI 0, aR 13 30 (t + 5), aI 0, aR 13 30 (t2 + 5)]) (σ' := σ15) (g := []) (by decide +kernel) rfl rfl ?_
  obtain ⟨hg, h⟩ := grd_some h
  obtain ⟨σ17, e18, h⟩ := ltσ_some h
  refine aw_copyI (idx := 34) (by decide) (Nat.le_of_ble_eq_true rfl) jw_copy ml_RX8_34 (by decide +kernel) hg ?_
  rw [← e18]
  obtain ⟨σ19, e20, h⟩ := ltσ_some h
  refine aw_seq [(.aload_n 0, 1, ax0), (.aload_n 1, 1, ax0), (.getfield 46, 3, (axF 8 9 (0, 0, 0, none))), (.putfield 46, 3, (axF 8 9 (0, 0, 0, none)))] (pc' := 115) (L' := [some (aR 8 0 t), some (aR 8 0 t2)]) (stk' := []) (σ' := σ19) (g := []) (by decide +kernel) (by rw [e20]; rfl) rfl ?_
  cases h
  exact aw_vret rfl (by decide +kernel)
def f_X11_foretold_38 (κ : Kd)   (σ : Sg) : Option (Int32 × Sg) :=
  some ((-1), σ)
set_option maxRecDepth 100000 in
set_option maxHeartbeats 4000000 in
theorem ok_X11_foretold_38 {κ : Kd}    : ∀  (σ : Sg) (q : (Int32 × Sg)), f_X11_foretold_38 κ  σ = some q → AW κ pX11_foretold 7 (some (aI q.1), q.2) 38 [none, none, none, none, none] [] σ := by
  intro  σ q h
  unfold f_X11_foretold_38 at h
  refine aw_seq [(.iconst (-1), 1, (axI (-1)))] (pc' := 39) (L' := [none, none, none, none, none]) (stk' := [aI (-1)]) (σ' := σ) (g := []) (by decide +kernel) rfl rfl ?_
  cases h
  exact aw_iret rfl (by decide +kernel)
def f_X11_foretold_151 (κ : Kd)  (s0 : Int32) (σ : Sg) : Option (Int32 × Sg) :=
  some (s0, σ)
set_option maxRecDepth 100000 in
set_option maxHeartbeats 4000000 in
theorem ok_X11_foretold_151 {κ : Kd}    : ∀ (s0 : Int32) (σ : Sg) (q : (Int32 × Sg)), f_X11_foretold_151 κ s0 σ = some q → AW κ pX11_foretold 7 (some (aI q.1), q.2) 151 [none, none, none, none, none] [aI s0] σ := by
  intro s0 σ q h
  unfold f_X11_foretold_151 at h
  cases h
  exact aw_iret rfl (by decide +kernel)
def f_X11_foretold_108 (κ : Kd)  (v2 : Int32) (v3 : Int32) (σ : Sg) : Option (Int32 × Sg) :=
  if v3 = 2 then (
    bnd (f_X8_housesBy 41 4 4 σ) fun r3 σ2 =>
    bnd (f_J6_bitCount_0f7a4 r3 σ2) fun r6 σ5 =>
    some (r6, σ5)
  ) else (
    if v3 = 0 then (
      grd (inb v2 8 && true) <|
      f_X11_foretold_151 κ (σ.1 44 (ix v2)) σ
    ) else (
      grd (inb v2 8 && true) <|
      f_X11_foretold_151 κ (σ.1 45 (ix v2)) σ
    )
  )
set_option maxRecDepth 100000 in
set_option maxHeartbeats 4000000 in
theorem ok_X11_foretold_108 {κ : Kd}    : ∀ (v2 : Int32) (v3 : Int32) (σ : Sg) (q : (Int32 × Sg)), f_X11_foretold_108 κ v2 v3 σ = some q → AW κ pX11_foretold 7 (some (aI q.1), q.2) 108 [some (aR 11 0 0), none, some (aI v2), some (aI v3), none] [] σ := by
  intro v2 v3 σ q h
  unfold f_X11_foretold_108 at h
  refine aw_seq [(.iload_n 3, 1, ax0), (.iconst 2, 1, (axI 2))] (pc' := 110) (L' := [some (aR 11 0 0), none, some (aI v2), some (aI v3), none]) (stk' := [aI 2, aI v3]) (σ' := σ) (g := []) (by decide +kernel) rfl rfl ?_
  refine aw_icmp_ne (off := 16) (tgt := 126) (by decide +kernel) (by decide) (fun c1 => ?_) (fun c1 => ?_)
  · rw [if_neg c1] at h
    refine aw_seq [(.iload_n 3, 1, ax0)] (pc' := 127) (L' := [some (aR 11 0 0), none, some (aI v2), some (aI v3), none]) (stk' := [aI v3]) (σ' := σ) (g := []) (by decide +kernel) rfl rfl ?_
    refine aw_if_ne (off := 15) (tgt := 142) (by decide +kernel) (by decide) (fun c1 => ?_) (fun c1 => ?_)
    · rw [if_neg c1] at h
      obtain ⟨hg, h⟩ := grd_some h
      refine aw_seq [(.aload_n 0, 1, ax0), (.getfield 22, 3, (axF 11 2 (2, 41, 8, some 0))), (.getfield 130, 3, (axF 8 4 (2, 4, 13, some 8))), (.iload_n 2, 1, ax0), (.iaload, 1, ax0)] (pc' := 151) (L' := [some (aR 11 0 0), none, some (aI v2), some (aI v3), none]) (stk' := [aI (σ.1 45 (ix v2))]) (σ' := σ) (g := [inb v2 8]) (by decide +kernel) rfl hg ?_
      refine aw_forget (L' := [none, none, none, none, none]) (lsub_n (lsub_n (lsub_n (lsub_n (lsub_n (lsub_0)))))) ?_
      exact ok_X11_foretold_151 (σ.1 45 (ix v2)) σ _ h
    · rw [if_pos c1] at h
      obtain ⟨hg, h⟩ := grd_some h
      refine aw_seq [(.aload_n 0, 1, ax0), (.getfield 22, 3, (axF 11 2 (2, 41, 8, some 0))), (.getfield 200, 3, (axF 8 3 (2, 3, 13, some 8))), (.iload_n 2, 1, ax0), (.iaload, 1, ax0)] (pc' := 139) (L' := [some (aR 11 0 0), none, some (aI v2), some (aI v3), none]) (stk' := [aI (σ.1 44 (ix v2))]) (σ' := σ) (g := [inb v2 8]) (by decide +kernel) rfl hg ?_
      refine aw_goto (off := 12) (tgt := 151) (by decide +kernel) (by decide) ?_
      refine aw_forget (L' := [none, none, none, none, none]) (lsub_n (lsub_n (lsub_n (lsub_n (lsub_n (lsub_0)))))) ?_
      exact ok_X11_foretold_151 (σ.1 44 (ix v2)) σ _ h
  · rw [if_pos c1] at h
    refine aw_seq [(.aload_n 0, 1, ax0), (.getfield 22, 3, (axF 11 2 (2, 41, 8, some 0))), (.iconst 4, 1, (axI 4)), (.iconst 4, 1, (axI 4))] (pc' := 119) (L' := [some (aR 11 0 0), none, some (aI v2), some (aI v3), none]) (stk' := [aI 4, aI 4, aR 8 0 41]) (σ' := σ) (g := []) (by decide +kernel) rfl rfl ?_
    obtain ⟨r3, σ2, h1, h⟩ := bnd_some h
    refine aw_cV (P' := pX8_housesBy) (idx := 206) (d' := 1) (c := 8) (n := 0) (k := 41) [aI 4, aI 4] [] (ov := (some (aI r3))) (stk2 := [aI r3]) okp_X8_housesBy (by decide +kernel) ml_RX11_206 vok_X8_housesBy (by decide) rfl nar_X8_housesBy (by decide) rfl (Nat.le_of_ble_eq_true rfl) (ok_X8_housesBy h1) rfl ?_
    obtain ⟨r6, σ5, h4, h⟩ := bnd_some h
    refine aw_cS (P' := pJ6_bitCount_0f7a4) (idx := 241) (d' := 1) [aI r3] [] (ov := (some (aI r6))) (stk2 := [aI r6]) okp_J6_bitCount_0f7a4 (by decide +kernel) ml_RX11_241 tok_J6_bitCount_0f7a4 nar_J6_bitCount_0f7a4 (by decide) rfl (Nat.le_of_ble_eq_true rfl) (ok_J6_bitCount_0f7a4 h4) rfl ?_
    cases h
    exact aw_iret rfl (by decide +kernel)
def f_X11_foretold_57 (κ : Kd)  : Nat → Int32 → Int32 → Int32 → Int32 → Sg → Option (Int32 × Sg)
  | 0, _, _, _, _, _ => none
  | fu + 1, v1, v2, v3, v4, σ =>
    if v1 ≤ v4 then (
      f_X11_foretold_108 κ v2 v3 σ
    ) else (
      if 9999 ≤ (σ.1 41 5) then (
        f_X11_foretold_108 κ v2 v3 σ
      ) else (
        bnd (f_X10_rule 1 σ) fun r9 σ8 =>
        bnd (f_X1_pass κ 41 8 r9 σ8) fun r12 σ11 =>
        (f_X11_foretold_57 κ fu) v1 v2 v3 (v4 + 1) σ11
      )
    )
set_option maxRecDepth 100000 in
set_option maxHeartbeats 4000000 in
theorem ok_X11_foretold_57 {κ : Kd}    : ∀ (fu : Nat) (v1 : Int32) (v2 : Int32) (v3 : Int32) (v4 : Int32) (σ : Sg) (q : (Int32 × Sg)), f_X11_foretold_57 κ fu v1 v2 v3 v4 σ = some q → AW κ pX11_foretold 7 (some (aI q.1), q.2) 57 [some (aR 11 0 0), some (aI v1), some (aI v2), some (aI v3), some (aI v4)] [] σ := by
  intro fu
  induction fu with
  | zero =>
    intro v1 v2 v3 v4 σ q h
    unfold f_X11_foretold_57 at h
    cases h
  | succ fu ih =>
    intro v1 v2 v3 v4 σ q h
    unfold f_X11_foretold_57 at h
    refine aw_seq [(.iload 4, 2, ax0), (.iload_n 1, 1, ax0)] (pc' := 60) (L' := [some (aR 11 0 0), some (aI v1), some (aI v2), some (aI v3), some (aI v4)]) (stk' := [aI v1, aI v4]) (σ' := σ) (g := []) (by decide +kernel) rfl rfl ?_
    refine aw_icmp_ge (off := 48) (tgt := 108) (by decide +kernel) (by decide) (fun c1 => ?_) (fun c1 => ?_)
    · rw [if_pos c1] at h
      refine aw_forget (L' := [some (aR 11 0 0), none, some (aI v2), some (aI v3), none]) (lsub_s (lsub_n (lsub_s (lsub_s (lsub_n (lsub_0)))))) ?_
      exact ok_X11_foretold_108 v2 v3 σ _ h
    · rw [if_neg c1] at h
      refine aw_seq [(.aload_n 0, 1, ax0), (.getfield 22, 3, (axF 11 2 (2, 41, 8, some 0))), (.getfield 151, 3, (axF 8 5 (0, 0, 0, none))), (.sipush 9999, 3, (axI 9999))] (pc' := 73) (L' := [some (aR 11 0 0), some (aI v1), some (aI v2), some (aI v3), some (aI v4)]) (stk' := [aI 9999, aI (σ.1 41 5)]) (σ' := σ) (g := []) (by decide +kernel) rfl rfl ?_
      refine aw_icmp_ge (off := 35) (tgt := 108) (by decide +kernel) (by decide) (fun c1 => ?_) (fun c1 => ?_)
      · rw [if_pos c1] at h
        refine aw_forget (L' := [some (aR 11 0 0), none, some (aI v2), some (aI v3), none]) (lsub_s (lsub_n (lsub_s (lsub_s (lsub_n (lsub_0)))))) ?_
        exact ok_X11_foretold_108 v2 v3 σ _ h
      · rw [if_neg c1] at h
        refine aw_seq [(.aload_n 0, 1, ax0), (.getfield 29, 3, (axF 11 3 (2, 47, 1, some 0))), (.aload_n 0, 1, ax0), (.getfield 22, 3, (axF 11 2 (2, 41, 8, some 0))), (.aload_n 0, 1, ax0), (.getfield 10, 3, (axF 11 0 (2, 1, 10, some 0))), (.getfield 83, 3, (axF 10 1 (2, 7, 5, some 0))), (.aload_n 0, 1, ax0), (.getfield 10, 3, (axF 11 0 (2, 1, 10, some 0)))] (pc' := 95) (L' := [some (aR 11 0 0), some (aI v1), some (aI v2), some (aI v3), some (aI v4)]) (stk' := [aR 10 0 1, aR 5 0 8, aR 8 0 41, aR 1 0 47]) (σ' := σ) (g := []) (by decide +kernel) rfl rfl ?_
        obtain ⟨r9, σ8, h7, h⟩ := bnd_some h
        refine aw_cV (P' := pX10_rule) (idx := 143) (d' := 3) (c := 10) (n := 0) (k := 1) [] [aR 5 0 8, aR 8 0 41, aR 1 0 47] (ov := (some (aT r9))) (stk2 := [aT r9, aR 5 0 8, aR 8 0 41, aR 1 0 47]) okp_X10_rule (by decide +kernel) ml_RX11_143 vok_X10_rule (by decide) rfl nar_X10_rule (by decide) rfl (Nat.le_of_ble_eq_true rfl) (ok_X10_rule h7) rfl ?_
        obtain ⟨r12, σ11, h10, h⟩ := bnd_some h
        refine aw_cV (P' := pX1_pass) (idx := 237) (d' := 6) (c := 1) (n := 0) (k := 47) [aR 8 0 41, aR 5 0 8, aT r9] [] (ov := (some (aI r12))) (stk2 := [aI r12]) okp_X1_pass (by decide +kernel) ml_RX11_237 vok_X1_pass (by decide) rfl nar_X1_pass (by decide) rfl (Nat.le_of_ble_eq_true rfl) (ok_X1_pass h10) rfl ?_
        refine aw_seq [(.pop, 1, ax0), (.iinc 4 1, 3, (axI 1))] (pc' := 105) (L' := [some (aR 11 0 0), some (aI v1), some (aI v2), some (aI v3), some (aI (v4 + 1))]) (stk' := []) (σ' := σ11) (g := []) (by decide +kernel) rfl rfl ?_
        refine aw_goto (off := (-48)) (tgt := 57) (by decide +kernel) (by decide) ?_
        refine aw_forget (L' := [some (aR 11 0 0), some (aI v1), some (aI v2), some (aI v3), some (aI (v4 + 1))]) (lsub_s (lsub_s (lsub_s (lsub_s (lsub_s (lsub_0)))))) ?_
        exact ih v1 v2 v3 (v4 + 1) σ11 _ h
def f_X11_foretold_40 (κ : Kd)  (v1 : Int32) (v2 : Int32) (v3 : Int32) (σ : Sg) : Option (Int32 × Sg) :=
  bndV (f_X8_copyFrom 41 2 σ) fun σ14 =>
  f_X11_foretold_57 κ FU v1 v2 v3 0 σ14
set_option maxRecDepth 100000 in
set_option maxHeartbeats 4000000 in
theorem ok_X11_foretold_40 {κ : Kd}    : ∀ (v1 : Int32) (v2 : Int32) (v3 : Int32) (σ : Sg) (q : (Int32 × Sg)), f_X11_foretold_40 κ v1 v2 v3 σ = some q → AW κ pX11_foretold 7 (some (aI q.1), q.2) 40 [some (aR 11 0 0), some (aI v1), some (aI v2), some (aI v3), none] [] σ := by
  intro v1 v2 v3 σ q h
  unfold f_X11_foretold_40 at h
  refine aw_seq [(.aload_n 0, 1, ax0), (.getfield 22, 3, (axF 11 2 (2, 41, 8, some 0))), (.aload_n 0, 1, ax0), (.getfield 10, 3, (axF 11 0 (2, 1, 10, some 0))), (.getfield 68, 3, (axF 10 0 (2, 1, 8, some 0)))] (pc' := 51) (L' := [some (aR 11 0 0), some (aI v1), some (aI v2), some (aI v3), none]) (stk' := [aR 8 0 2, aR 8 0 41]) (σ' := σ) (g := []) (by decide +kernel) rfl rfl ?_
  obtain ⟨σ14, h13, h⟩ := bndV_some h
  refine aw_cV (P' := pX8_copyFrom) (idx := 234) (d' := 2) (c := 8) (n := 0) (k := 41) [aR 8 0 2] [] (ov := none) (stk2 := []) okp_X8_copyFrom (by decide +kernel) ml_RX11_234 vok_X8_copyFrom (by decide) rfl nar_X8_copyFrom (by decide) rfl (Nat.le_of_ble_eq_true rfl) (ok_X8_copyFrom h13) rfl ?_
  refine aw_seq [(.iconst 0, 1, (axI 0)), (.istore 4, 2, ax0)] (pc' := 57) (L' := [some (aR 11 0 0), some (aI v1), some (aI v2), some (aI v3), some (aI 0)]) (stk' := []) (σ' := σ14) (g := []) (by decide +kernel) rfl rfl ?_
  refine aw_forget (L' := [some (aR 11 0 0), some (aI v1), some (aI v2), some (aI v3), some (aI 0)]) (lsub_s (lsub_s (lsub_s (lsub_s (lsub_s (lsub_0)))))) ?_
  exact ok_X11_foretold_57 FU v1 v2 v3 0 σ14 _ h
def f_X11_foretold (κ : Kd) (v1 : Int32) (v2 : Int32) (v3 : Int32) (σ : Sg) : Option (Int32 × Sg) :=
  bnd (f_X11_within v1 1 60 σ) fun r17 σ16 =>
  if r17 = 0 then (
    f_X11_foretold_38 κ σ16
  ) else (
    bnd (f_X11_within v3 0 2 σ16) fun r20 σ19 =>
    if r20 = 0 then (
      f_X11_foretold_38 κ σ19
    ) else (
      if 2 ≤ v3 then (
        f_X11_foretold_40 κ v1 v2 v3 σ19
      ) else (
        bnd (f_X8_told 2 v2 σ19) fun r23 σ22 =>
        if r23 = 0 then (
          f_X11_foretold_38 κ σ22
        ) else (
          f_X11_foretold_40 κ v1 v2 v3 σ22
        )
      )
    )
  )
set_option maxRecDepth 100000 in
set_option maxHeartbeats 4000000 in
theorem ok_X11_foretold {κ : Kd} {v1 : Int32} {v2 : Int32} {v3 : Int32} {σ : Sg} {q : (Int32 × Sg)} (h : f_X11_foretold κ v1 v2 v3 σ = some q) : AMet κ pX11_foretold 7 [aR 11 0 0, aI v1, aI v2, aI v3] σ (some (aI q.1), q.2) := by
  unfold f_X11_foretold at h
  refine amet_of okp_X11_foretold [(false, aR 11 0 0), (false, aI v1), (false, aI v2), (false, aI v3)] (List.forall_mem_cons.mpr ⟨rfl, List.forall_mem_cons.mpr ⟨rfl, List.forall_mem_cons.mpr ⟨rfl, List.forall_mem_cons.mpr ⟨rfl, (fun _ hn => absurd hn List.not_mem_nil)⟩⟩⟩⟩) 1 rfl ?_
  show AW κ pX11_foretold 7 (some (aI q.1), q.2) 0 [some (aR 11 0 0), some (aI v1), some (aI v2), some (aI v3), none] [] σ
  refine aw_seq [(.iload_n 1, 1, ax0), (.iconst 1, 1, (axI 1)), (.bipush 60, 2, (axI 60))] (pc' := 4) (L' := [some (aR 11 0 0), some (aI v1), some (aI v2), some (aI v3), none]) (stk' := [aI 60, aI 1, aI v1]) (σ' := σ) (g := []) (by decide +kernel) rfl rfl ?_
  obtain ⟨r17, σ16, h15, h⟩ := bnd_some h
  refine aw_cS (P' := pX11_within) (idx := 79) (d' := 1) [aI v1, aI 1, aI 60] [] (ov := (some (aI r17))) (stk2 := [aI r17]) okp_X11_within (by decide +kernel) ml_RX11_79 tok_X11_within nar_X11_within (by decide) rfl (Nat.le_of_ble_eq_true rfl) (ok_X11_within h15) rfl ?_
  refine aw_if_eq (off := 31) (tgt := 38) (by decide +kernel) (by decide) (fun c1 => ?_) (fun c1 => ?_)
  · rw [if_pos c1] at h
    refine aw_forget (L' := [none, none, none, none, none]) (lsub_n (lsub_n (lsub_n (lsub_n (lsub_n (lsub_0)))))) ?_
    exact ok_X11_foretold_38 σ16 _ h
  · rw [if_neg c1] at h
    refine aw_seq [(.iload_n 3, 1, ax0), (.iconst 0, 1, (axI 0)), (.iconst 2, 1, (axI 2))] (pc' := 13) (L' := [some (aR 11 0 0), some (aI v1), some (aI v2), some (aI v3), none]) (stk' := [aI 2, aI 0, aI v3]) (σ' := σ16) (g := []) (by decide +kernel) rfl rfl ?_
    obtain ⟨r20, σ19, h18, h⟩ := bnd_some h
    refine aw_cS (P' := pX11_within) (idx := 79) (d' := 1) [aI v3, aI 0, aI 2] [] (ov := (some (aI r20))) (stk2 := [aI r20]) okp_X11_within (by decide +kernel) ml_RX11_79 tok_X11_within nar_X11_within (by decide) rfl (Nat.le_of_ble_eq_true rfl) (ok_X11_within h18) rfl ?_
    refine aw_if_eq (off := 22) (tgt := 38) (by decide +kernel) (by decide) (fun c1 => ?_) (fun c1 => ?_)
    · rw [if_pos c1] at h
      refine aw_forget (L' := [none, none, none, none, none]) (lsub_n (lsub_n (lsub_n (lsub_n (lsub_n (lsub_0)))))) ?_
      exact ok_X11_foretold_38 σ19 _ h
    · rw [if_neg c1] at h
      refine aw_seq [(.iload_n 3, 1, ax0), (.iconst 2, 1, (axI 2))] (pc' := 21) (L' := [some (aR 11 0 0), some (aI v1), some (aI v2), some (aI v3), none]) (stk' := [aI 2, aI v3]) (σ' := σ19) (g := []) (by decide +kernel) rfl rfl ?_
      refine aw_icmp_ge (off := 19) (tgt := 40) (by decide +kernel) (by decide) (fun c1 => ?_) (fun c1 => ?_)
      · rw [if_pos c1] at h
        refine aw_forget (L' := [some (aR 11 0 0), some (aI v1), some (aI v2), some (aI v3), none]) (lsub_s (lsub_s (lsub_s (lsub_s (lsub_n (lsub_0)))))) ?_
        exact ok_X11_foretold_40 v1 v2 v3 σ19 _ h
      · rw [if_neg c1] at h
        refine aw_seq [(.aload_n 0, 1, ax0), (.getfield 10, 3, (axF 11 0 (2, 1, 10, some 0))), (.getfield 68, 3, (axF 10 0 (2, 1, 8, some 0))), (.iload_n 2, 1, ax0)] (pc' := 32) (L' := [some (aR 11 0 0), some (aI v1), some (aI v2), some (aI v3), none]) (stk' := [aI v2, aR 8 0 2]) (σ' := σ19) (g := []) (by decide +kernel) rfl rfl ?_
        obtain ⟨r23, σ22, h21, h⟩ := bnd_some h
        refine aw_cV (P' := pX8_told) (idx := 75) (d' := 1) (c := 8) (n := 0) (k := 2) [aI v2] [] (ov := (some (aI r23))) (stk2 := [aI r23]) okp_X8_told (by decide +kernel) ml_RX11_75 vok_X8_told (by decide) rfl nar_X8_told (by decide) rfl (Nat.le_of_ble_eq_true rfl) (ok_X8_told h21) rfl ?_
        refine aw_if_ne (off := 5) (tgt := 40) (by decide +kernel) (by decide) (fun c1 => ?_) (fun c1 => ?_)
        · rw [if_neg c1] at h
          refine aw_forget (L' := [some (aR 11 0 0), some (aI v1), some (aI v2), some (aI v3), none]) (lsub_s (lsub_s (lsub_s (lsub_s (lsub_n (lsub_0)))))) ?_
          exact ok_X11_foretold_40 v1 v2 v3 σ22 _ h
        · rw [if_pos c1] at h
          refine aw_forget (L' := [none, none, none, none, none]) (lsub_n (lsub_n (lsub_n (lsub_n (lsub_n (lsub_0)))))) ?_
          exact ok_X11_foretold_38 σ22 _ h
