/-! printed by wip/whole/gen4.py from the class file: out, between, shorten, measure, far, odd, besideAll, group, groups, hangTogether, together, lowestOf, with, lowestPartner, pairUp, walk, round, partner, again, warmth, ring -/
def f_X11_out_32 (κ : Kd)  : Nat → Int32 → Int32 → Sg → Option (Int32 × Sg)
  | 0, _, _, _ => none
  | fu + 1, v1, v2, σ =>
    if 60 < v2 then (
      some ((-1), σ)
    ) else (
      grd (inb v1 8 && true) <|
      if (σ.1 44 (ix v1)) = 0 then (
        some (v2, σ)
      ) else (
        if (σ.1 41 5) < 9999 then (
          bnd (f_X10_rule 1 σ) fun r3 σ2 =>
          bnd (f_X1_pass κ 41 8 r3 σ2) fun r6 σ5 =>
          (f_X11_out_32 κ fu) v1 (v2 + 1) σ5
        ) else (
          some ((-1), σ)
        )
      )
    )
set_option maxRecDepth 100000 in
set_option maxHeartbeats 4000000 in
theorem ok_X11_out_32 {κ : Kd}    : ∀ (fu : Nat) (v1 : Int32) (v2 : Int32) (σ : Sg) (q : (Int32 × Sg)), f_X11_out_32 κ fu v1 v2 σ = some q → AW κ pX11_out 7 (some (aI q.1), q.2) 32 [some (aR 11 0 0), some (aI v1), some (aI v2)] [] σ := by
  intro fu
  induction fu with
  | zero =>
    intro v1 v2 σ q h
    unfold f_X11_out_32 at h
    cases h
  | succ fu ih =>
    intro v1 v2 σ q h
    unfold f_X11_out_32 at h
    refine aw_seq [(.iload_n 2, 1, ax0), (.bipush 60, 2, (axI 60))] (pc' := 35) (L' := [some (aR 11 0 0), some (aI v1), some (aI v2)]) (stk' := [aI 60, aI v2]) (σ' := σ) (g := []) (by decide +kernel) rfl rfl ?_
    refine aw_icmp_gt (off := 64) (tgt := 99) (by decide +kernel) (by decide) (fun c1 => ?_) (fun c1 => ?_)
    · rw [if_pos c1] at h
      refine aw_seq [(.iconst (-1), 1, (axI (-1)))] (pc' := 100) (L' := [some (aR 11 0 0), some (aI v1), some (aI v2)]) (stk' := [aI (-1)]) (σ' := σ) (g := []) (by decide +kernel) rfl rfl ?_
      cases h
      exact aw_iret rfl (by decide +kernel)
    · rw [if_neg c1] at h
      obtain ⟨hg, h⟩ := grd_some h
      refine aw_seq [(.aload_n 0, 1, ax0), (.getfield 22, 3, (axF 11 2 (2, 41, 8, some 0))), (.getfield 200, 3, (axF 8 3 (2, 3, 13, some 8))), (.iload_n 1, 1, ax0), (.iaload, 1, ax0)] (pc' := 47) (L' := [some (aR 11 0 0), some (aI v1), some (aI v2)]) (stk' := [aI (σ.1 44 (ix v1))]) (σ' := σ) (g := [inb v1 8]) (by decide +kernel) rfl hg ?_
      refine aw_if_ne (off := 5) (tgt := 52) (by decide +kernel) (by decide) (fun c1 => ?_) (fun c1 => ?_)
      · rw [if_neg c1] at h
        refine aw_seq [(.aload_n 0, 1, ax0), (.getfield 22, 3, (axF 11 2 (2, 41, 8, some 0))), (.getfield 151, 3, (axF 8 5 (0, 0, 0, none))), (.sipush 9999, 3, (axI 9999))] (pc' := 62) (L' := [some (aR 11 0 0), some (aI v1), some (aI v2)]) (stk' := [aI 9999, aI (σ.1 41 5)]) (σ' := σ) (g := []) (by decide +kernel) rfl rfl ?_
        refine aw_icmp_lt (off := 5) (tgt := 67) (by decide +kernel) (by decide) (fun c1 => ?_) (fun c1 => ?_)
        · rw [if_pos c1] at h
          refine aw_seq [(.aload_n 0, 1, ax0), (.getfield 29, 3, (axF 11 3 (2, 47, 1, some 0))), (.aload_n 0, 1, ax0), (.getfield 22, 3, (axF 11 2 (2, 41, 8, some 0))), (.aload_n 0, 1, ax0), (.getfield 10, 3, (axF 11 0 (2, 1, 10, some 0))), (.getfield 83, 3, (axF 10 1 (2, 7, 5, some 0))), (.aload_n 0, 1, ax0), (.getfield 10, 3, (axF 11 0 (2, 1, 10, some 0)))] (pc' := 86) (L' := [some (aR 11 0 0), some (aI v1), some (aI v2)]) (stk' := [aR 10 0 1, aR 5 0 8, aR 8 0 41, aR 1 0 47]) (σ' := σ) (g := []) (by decide +kernel) rfl rfl ?_
          obtain ⟨r3, σ2, h1, h⟩ := bnd_some h
          refine aw_cV (P' := pX10_rule) (idx := 143) (d' := 3) (c := 10) (n := 0) (k := 1) [] [aR 5 0 8, aR 8 0 41, aR 1 0 47] (ov := (some (aT r3))) (stk2 := [aT r3, aR 5 0 8, aR 8 0 41, aR 1 0 47]) okp_X10_rule (by decide +kernel) ml_RX11_143 vok_X10_rule (by decide) rfl nar_X10_rule (by decide) rfl (Nat.le_of_ble_eq_true rfl) (ok_X10_rule h1) rfl ?_
          obtain ⟨r6, σ5, h4, h⟩ := bnd_some h
          refine aw_cV (P' := pX1_pass) (idx := 237) (d' := 6) (c := 1) (n := 0) (k := 47) [aR 8 0 41, aR 5 0 8, aT r3] [] (ov := (some (aI r6))) (stk2 := [aI r6]) okp_X1_pass (by decide +kernel) ml_RX11_237 vok_X1_pass (by decide) rfl nar_X1_pass (by decide) rfl (Nat.le_of_ble_eq_true rfl) (ok_X1_pass h4) rfl ?_
          refine aw_seq [(.pop, 1, ax0), (.iinc 2 1, 3, (axI 1))] (pc' := 96) (L' := [some (aR 11 0 0), some (aI v1), some (aI (v2 + 1))]) (stk' := []) (σ' := σ5) (g := []) (by decide +kernel) rfl rfl ?_
          refine aw_goto (off := (-64)) (tgt := 32) (by decide +kernel) (by decide) ?_
          refine aw_forget (L' := [some (aR 11 0 0), some (aI v1), some (aI (v2 + 1))]) (lsub_s (lsub_s (lsub_s (lsub_0)))) ?_
          exact ih v1 (v2 + 1) σ5 _ h
        · rw [if_neg c1] at h
          refine aw_seq [(.iconst (-1), 1, (axI (-1)))] (pc' := 66) (L' := [some (aR 11 0 0), some (aI v1), some (aI v2)]) (stk' := [aI (-1)]) (σ' := σ) (g := []) (by decide +kernel) rfl rfl ?_
          cases h
          exact aw_iret rfl (by decide +kernel)
      · rw [if_pos c1] at h
        refine aw_seq [(.iload_n 2, 1, ax0)] (pc' := 51) (L' := [some (aR 11 0 0), some (aI v1), some (aI v2)]) (stk' := [aI v2]) (σ' := σ) (g := []) (by decide +kernel) rfl rfl ?_
        cases h
        exact aw_iret rfl (by decide +kernel)
def f_X11_out (κ : Kd) (v1 : Int32) (σ : Sg) : Option (Int32 × Sg) :=
  bnd (f_X8_told 2 v1 σ) fun r9 σ8 =>
  if r9 = 0 then (
    some ((-1), σ8)
  ) else (
    bndV (f_X8_copyFrom 41 2 σ8) fun σ11 =>
    f_X11_out_32 κ FU v1 0 σ11
  )
set_option maxRecDepth 100000 in
set_option maxHeartbeats 4000000 in
theorem ok_X11_out {κ : Kd} {v1 : Int32} {σ : Sg} {q : (Int32 × Sg)} (h : f_X11_out κ v1 σ = some q) : AMet κ pX11_out 7 [aR 11 0 0, aI v1] σ (some (aI q.1), q.2) := by
  unfold f_X11_out at h
  refine amet_of okp_X11_out [(false, aR 11 0 0), (false, aI v1)] (List.forall_mem_cons.mpr ⟨rfl, List.forall_mem_cons.mpr ⟨rfl, (fun _ hn => absurd hn List.not_mem_nil)⟩⟩) 1 rfl ?_
  show AW κ pX11_out 7 (some (aI q.1), q.2) 0 [some (aR 11 0 0), some (aI v1), none] [] σ
  refine aw_seq [(.aload_n 0, 1, ax0), (.getfield 10, 3, (axF 11 0 (2, 1, 10, some 0))), (.getfield 68, 3, (axF 10 0 (2, 1, 8, some 0))), (.iload_n 1, 1, ax0)] (pc' := 8) (L' := [some (aR 11 0 0), some (aI v1), none]) (stk' := [aI v1, aR 8 0 2]) (σ' := σ) (g := []) (by decide +kernel) rfl rfl ?_
  obtain ⟨r9, σ8, h7, h⟩ := bnd_some h
  refine aw_cV (P' := pX8_told) (idx := 75) (d' := 1) (c := 8) (n := 0) (k := 2) [aI v1] [] (ov := (some (aI r9))) (stk2 := [aI r9]) okp_X8_told (by decide +kernel) ml_RX11_75 vok_X8_told (by decide) rfl nar_X8_told (by decide) rfl (Nat.le_of_ble_eq_true rfl) (ok_X8_told h7) rfl ?_
  refine aw_if_ne (off := 5) (tgt := 16) (by decide +kernel) (by decide) (fun c1 => ?_) (fun c1 => ?_)
  · rw [if_neg c1] at h
    refine aw_seq [(.aload_n 0, 1, ax0), (.getfield 22, 3, (axF 11 2 (2, 41, 8, some 0))), (.aload_n 0, 1, ax0), (.getfield 10, 3, (axF 11 0 (2, 1, 10, some 0))), (.getfield 68, 3, (axF 10 0 (2, 1, 8, some 0)))] (pc' := 27) (L' := [some (aR 11 0 0), some (aI v1), none]) (stk' := [aR 8 0 2, aR 8 0 41]) (σ' := σ8) (g := []) (by decide +kernel) rfl rfl ?_
    obtain ⟨σ11, h10, h⟩ := bndV_some h
    refine aw_cV (P' := pX8_copyFrom) (idx := 234) (d' := 2) (c := 8) (n := 0) (k := 41) [aR 8 0 2] [] (ov := none) (stk2 := []) okp_X8_copyFrom (by decide +kernel) ml_RX11_234 vok_X8_copyFrom (by decide) rfl nar_X8_copyFrom (by decide) rfl (Nat.le_of_ble_eq_true rfl) (ok_X8_copyFrom h10) rfl ?_
    refine aw_seq [(.iconst 0, 1, (axI 0)), (.istore_n 2, 1, ax0)] (pc' := 32) (L' := [some (aR 11 0 0), some (aI v1), some (aI 0)]) (stk' := []) (σ' := σ11) (g := []) (by decide +kernel) rfl rfl ?_
    refine aw_forget (L' := [some (aR 11 0 0), some (aI v1), some (aI 0)]) (lsub_s (lsub_s (lsub_s (lsub_0)))) ?_
    exact ok_X11_out_32 FU v1 0 σ11 _ h
  · rw [if_pos c1] at h
    refine aw_seq [(.iconst (-1), 1, (axI (-1)))] (pc' := 15) (L' := [some (aR 11 0 0), some (aI v1), none]) (stk' := [aI (-1)]) (σ' := σ8) (g := []) (by decide +kernel) rfl rfl ?_
    cases h
    exact aw_iret rfl (by decide +kernel)
def f_X9_between (v1 : Int32) (v2 : Int32) (σ : Sg) : Option (Int32 × Sg) :=
  grd (inb ((v1 * 8) + v2) 64 && true) <|
  some ((σ.1 60 (ix ((v1 * 8) + v2))), σ)
set_option maxRecDepth 100000 in
set_option maxHeartbeats 4000000 in
theorem ok_X9_between {κ : Kd} {v1 : Int32} {v2 : Int32} {σ : Sg} {q : (Int32 × Sg)} (h : f_X9_between v1 v2 σ = some q) : AMet κ pX9_between 1 [aR 9 0 59, aI v1, aI v2] σ (some (aI q.1), q.2) := by
  unfold f_X9_between at h
  refine amet_of okp_X9_between [(false, aR 9 0 59), (false, aI v1), (false, aI v2)] (List.forall_mem_cons.mpr ⟨rfl, List.forall_mem_cons.mpr ⟨rfl, List.forall_mem_cons.mpr ⟨rfl, (fun _ hn => absurd hn List.not_mem_nil)⟩⟩⟩) 0 rfl ?_
  show AW κ pX9_between 1 (some (aI q.1), q.2) 0 [some (aR 9 0 59), some (aI v1), some (aI v2)] [] σ
  obtain ⟨hg, h⟩ := grd_some h
  refine aw_seq [(.aload_n 0, 1, ax0), (.getfield 9, 3, (axF 9 0 (2, 1, 13, some 64))), (.iload_n 1, 1, ax0), (.bipush 8, 2, (axI 8)), (.imul, 1, ax0), (.iload_n 2, 1, ax0), (.iadd, 1, ax0), (.iaload, 1, ax0)] (pc' := 11) (L' := [some (aR 9 0 59), some (aI v1), some (aI v2)]) (stk' := [aI (σ.1 60 (ix ((v1 * 8) + v2)))]) (σ' := σ) (g := [inb ((v1 * 8) + v2) 64]) (by decide +kernel) rfl hg ?_
  cases h
  exact aw_iret rfl (by decide +kernel)
def f_X9_shorten_86  (rec_2 : Int32 → Int32 → Sg → Option Sg) (v1 : Int32) (v2 : Int32) (σ : Sg) : Option Sg :=
  rec_2 v1 (v2 + 1) σ
set_option maxRecDepth 100000 in
set_option maxHeartbeats 4000000 in
theorem ok_X9_shorten_86 {κ : Kd}   {rec_2 : Int32 → Int32 → Sg → Option Sg} (hrec_2 : ∀ (v1 : Int32) (v2 : Int32) (σ : Sg) (q : Sg), rec_2 v1 v2 σ = some q → AW κ pX9_shorten 2 (none, q) 2 [some (aR 9 0 59), some (aI v1), some (aI v2), none, none, none, none] [] σ) : ∀ (v1 : Int32) (v2 : Int32) (σ : Sg) (q : Sg), f_X9_shorten_86 rec_2 v1 v2 σ = some q → AW κ pX9_shorten 2 (none, q) 86 [some (aR 9 0 59), some (aI v1), some (aI v2), none, none, none, none] [] σ := by
  intro v1 v2 σ q h
  unfold f_X9_shorten_86 at h
  refine aw_seq [(.iinc 2 1, 3, (axI 1))] (pc' := 89) (L' := [some (aR 9 0 59), some (aI v1), some (aI (v2 + 1)), none, none, none, none]) (stk' := []) (σ' := σ) (g := []) (by decide +kernel) rfl rfl ?_
  refine aw_goto (off := (-87)) (tgt := 2) (by decide +kernel) (by decide) ?_
  refine aw_forget (L' := [some (aR 9 0 59), some (aI v1), some (aI (v2 + 1)), none, none, none, none]) (lsub_s (lsub_s (lsub_s (lsub_n (lsub_n (lsub_n (lsub_n (lsub_0)))))))) ?_
  exact hrec_2 v1 (v2 + 1) σ _ h
def f_X9_shorten_23  (rec_2 : Int32 → Int32 → Sg → Option Sg) : Nat → Int32 → Int32 → Int32 → Int32 → Sg → Option Sg
  | 0, _, _, _, _, _ => none
  | fu + 1, v1, v2, v3, v4, σ =>
    if 8 ≤ v4 then (
      f_X9_shorten_86 rec_2 v1 v2 σ
    ) else (
      if 1000000 ≤ v3 then (
        f_X9_shorten_86 rec_2 v1 v2 σ
      ) else (
        grd (inb ((v1 * 8) + v4) 64 && (inb ((v2 * 8) + v4) 64 && true)) <|
        grd (inb ((v2 * 8) + v4) 64 && true) <|
        ltσ (wI σ 60 (ix ((v2 * 8) + v4)) (imin (σ.1 60 (ix ((v2 * 8) + v4))) (v3 + (σ.1 60 (ix ((v1 * 8) + v4)))))) fun σ1 =>
        (f_X9_shorten_23 rec_2 fu) v1 v2 v3 (v4 + 1) σ1
      )
    )
set_option maxRecDepth 100000 in
set_option maxHeartbeats 4000000 in
theorem ok_X9_shorten_23 {κ : Kd}   {rec_2 : Int32 → Int32 → Sg → Option Sg} (hrec_2 : ∀ (v1 : Int32) (v2 : Int32) (σ : Sg) (q : Sg), rec_2 v1 v2 σ = some q → AW κ pX9_shorten 2 (none, q) 2 [some (aR 9 0 59), some (aI v1), some (aI v2), none, none, none, none] [] σ) : ∀ (fu : Nat) (v1 : Int32) (v2 : Int32) (v3 : Int32) (v4 : Int32) (σ : Sg) (q : Sg), f_X9_shorten_23 rec_2 fu v1 v2 v3 v4 σ = some q → AW κ pX9_shorten 2 (none, q) 23 [some (aR 9 0 59), some (aI v1), some (aI v2), some (aI v3), some (aI v4), none, none] [] σ := by
  intro fu
  induction fu with
  | zero =>
    intro v1 v2 v3 v4 σ q h
    unfold f_X9_shorten_23 at h
    cases h
  | succ fu ih =>
    intro v1 v2 v3 v4 σ q h
    unfold f_X9_shorten_23 at h
    refine aw_seq [(.iload 4, 2, ax0), (.bipush 8, 2, (axI 8))] (pc' := 27) (L' := [some (aR 9 0 59), some (aI v1), some (aI v2), some (aI v3), some (aI v4), none, none]) (stk' := [aI 8, aI v4]) (σ' := σ) (g := []) (by decide +kernel) rfl rfl ?_
    refine aw_icmp_ge (off := 59) (tgt := 86) (by decide +kernel) (by decide) (fun c1 => ?_) (fun c1 => ?_)
    · rw [if_pos c1] at h
      refine aw_forget (L' := [some (aR 9 0 59), some (aI v1), some (aI v2), none, none, none, none]) (lsub_s (lsub_s (lsub_s (lsub_n (lsub_n (lsub_n (lsub_n (lsub_0)))))))) ?_
      exact ok_X9_shorten_86 hrec_2 v1 v2 σ _ h
    · rw [if_neg c1] at h
      refine aw_seq [(.iload_n 3, 1, ax0), (.ldc 21, 2, (axI 1000000))] (pc' := 33) (L' := [some (aR 9 0 59), some (aI v1), some (aI v2), some (aI v3), some (aI v4), none, none]) (stk' := [aI 1000000, aI v3]) (σ' := σ) (g := []) (by decide +kernel) rfl rfl ?_
      refine aw_icmp_ge (off := 53) (tgt := 86) (by decide +kernel) (by decide) (fun c1 => ?_) (fun c1 => ?_)
      · rw [if_pos c1] at h
        refine aw_forget (L' := [some (aR 9 0 59), some (aI v1), some (aI v2), none, none, none, none]) (lsub_s (lsub_s (lsub_s (lsub_n (lsub_n (lsub_n (lsub_n (lsub_0)))))))) ?_
        exact ok_X9_shorten_86 hrec_2 v1 v2 σ _ h
      · rw [if_neg c1] at h
        obtain ⟨hg, h⟩ := grd_some h
        refine aw_seq [(.iload_n 3, 1, ax0), (.aload_n 0, 1, ax0), (.getfield 9, 3, (axF 9 0 (2, 1, 13, some 64))), (.iload_n 1, 1, ax0), (.bipush 8, 2, (axI 8)), (.imul, 1, ax0), (.iload 4, 2, ax0), (.iadd, 1, ax0), (.iaload, 1, ax0), (.iadd, 1, ax0), (.istore 5, 2, ax0), (.iload_n 2, 1, ax0), (.bipush 8, 2, (axI 8)), (.imul, 1, ax0), (.iload 4, 2, ax0), (.iadd, 1, ax0), (.istore 6, 2, ax0), (.aload_n 0, 1, ax0), (.getfield 9, 3, (axF 9 0 (2, 1, 13, some 64))), (.iload 6, 2, ax0), (.aload_n 0, 1, ax0), (.getfield 9, 3, (axF 9 0 (2, 1, 13, some 64))), (.iload 6, 2, ax0), (.iaload, 1, ax0), (.iload 5, 2, ax0)] (pc' := 76) (L' := [some (aR 9 0 59), some (aI v1), some (aI v2), some (aI v3), some (aI v4), some (aI (v3 + (σ.1 60 (ix ((v1 * 8) + v4))))), some (aI ((v2 * 8) + v4))]) (stk' := [aI (v3 + (σ.1 60 (ix ((v1 * 8) + v4)))), aI (σ.1 60 (ix ((v2 * 8) + v4))), aI ((v2 * 8) + v4), aR 13 64 60]) (σ' := σ) (g := [inb ((v1 * 8) + v4) 64, inb ((v2 * 8) + v4) 64]) (by decide +kernel) rfl hg ?_
        refine aw_imin (idx := 26) (by decide) (Nat.le_of_ble_eq_true rfl) jw_imin ml_RX9_26 (by decide +kernel) ?_
        obtain ⟨hg, h⟩ := grd_some h
        obtain ⟨σ1, e2, h⟩ := ltσ_some h
        refine aw_seq [(.iastore, 1, ax0)] (pc' := 80) (L' := [some (aR 9 0 59), some (aI v1), some (aI v2), some (aI v3), some (aI v4), some (aI (v3 + (σ.1 60 (ix ((v1 * 8) + v4))))), some (aI ((v2 * 8) + v4))]) (stk' := []) (σ' := σ1) (g := [inb ((v2 * 8) + v4) 64]) (by decide +kernel) (by rw [e2]; rfl) hg ?_
        refine aw_seq [(.iinc 4 1, 3, (axI 1))] (pc' := 83) (L' := [some (aR 9 0 59), some (aI v1), some (aI v2), some (aI v3), some (aI (v4 + 1)), some (aI (v3 + (σ.1 60 (ix ((v1 * 8) + v4))))), some (aI ((v2 * 8) + v4))]) (stk' := []) (σ' := σ1) (g := []) (by decide +kernel) rfl rfl ?_
        refine aw_goto (off := (-60)) (tgt := 23) (by decide +kernel) (by decide) ?_
        refine aw_forget (L' := [some (aR 9 0 59), some (aI v1), some (aI v2), some (aI v3), some (aI (v4 + 1)), none, none]) (lsub_s (lsub_s (lsub_s (lsub_s (lsub_s (lsub_n (lsub_n (lsub_0)))))))) ?_
        exact ih v1 v2 v3 (v4 + 1) σ1 _ h
def f_X9_shorten_2   : Nat → Int32 → Int32 → Sg → Option Sg
  | 0, _, _, _ => none
  | fu + 1, v1, v2, σ =>
    if 8 ≤ v2 then (
      some σ
    ) else (
      grd (inb ((v2 * 8) + v1) 64 && true) <|
      f_X9_shorten_23 (f_X9_shorten_2 fu) FU v1 v2 (σ.1 60 (ix ((v2 * 8) + v1))) 0 σ
    )
set_option maxRecDepth 100000 in
set_option maxHeartbeats 4000000 in
theorem ok_X9_shorten_2 {κ : Kd}    : ∀ (fu : Nat) (v1 : Int32) (v2 : Int32) (σ : Sg) (q : Sg), f_X9_shorten_2 fu v1 v2 σ = some q → AW κ pX9_shorten 2 (none, q) 2 [some (aR 9 0 59), some (aI v1), some (aI v2), none, none, none, none] [] σ := by
  intro fu
  induction fu with
  | zero =>
    intro v1 v2 σ q h
    unfold f_X9_shorten_2 at h
    cases h
  | succ fu ih =>
    intro v1 v2 σ q h
    unfold f_X9_shorten_2 at h
    refine aw_seq [(.iload_n 2, 1, ax0), (.bipush 8, 2, (axI 8))] (pc' := 5) (L' := [some (aR 9 0 59), some (aI v1), some (aI v2), none, none, none, none]) (stk' := [aI 8, aI v2]) (σ' := σ) (g := []) (by decide +kernel) rfl rfl ?_
    refine aw_icmp_ge (off := 87) (tgt := 92) (by decide +kernel) (by decide) (fun c1 => ?_) (fun c1 => ?_)
    · rw [if_pos c1] at h
      cases h
      exact aw_vret rfl (by decide +kernel)
    · rw [if_neg c1] at h
      obtain ⟨hg, h⟩ := grd_some h
      refine aw_seq [(.aload_n 0, 1, ax0), (.getfield 9, 3, (axF 9 0 (2, 1, 13, some 64))), (.iload_n 2, 1, ax0), (.bipush 8, 2, (axI 8)), (.imul, 1, ax0), (.iload_n 1, 1, ax0), (.iadd, 1, ax0), (.iaload, 1, ax0), (.istore_n 3, 1, ax0), (.iconst 0, 1, (axI 0)), (.istore 4, 2, ax0)] (pc' := 23) (L' := [some (aR 9 0 59), some (aI v1), some (aI v2), some (aI (σ.1 60 (ix ((v2 * 8) + v1)))), some (aI 0), none, none]) (stk' := []) (σ' := σ) (g := [inb ((v2 * 8) + v1) 64]) (by decide +kernel) rfl hg ?_
      refine aw_forget (L' := [some (aR 9 0 59), some (aI v1), some (aI v2), some (aI (σ.1 60 (ix ((v2 * 8) + v1)))), some (aI 0), none, none]) (lsub_s (lsub_s (lsub_s (lsub_s (lsub_s (lsub_n (lsub_n (lsub_0)))))))) ?_
      exact ok_X9_shorten_23 ih FU v1 v2 (σ.1 60 (ix ((v2 * 8) + v1))) 0 σ _ h
def f_X9_shorten (v1 : Int32) (σ : Sg) : Option Sg :=
  f_X9_shorten_2 FU v1 0 σ
set_option maxRecDepth 100000 in
set_option maxHeartbeats 4000000 in
theorem ok_X9_shorten {κ : Kd} {v1 : Int32} {σ : Sg} {q : Sg} (h : f_X9_shorten v1 σ = some q) : AMet κ pX9_shorten 2 [aR 9 0 59, aI v1] σ (none, q) := by
  unfold f_X9_shorten at h
  refine amet_of okp_X9_shorten [(false, aR 9 0 59), (false, aI v1)] (List.forall_mem_cons.mpr ⟨rfl, List.forall_mem_cons.mpr ⟨rfl, (fun _ hn => absurd hn List.not_mem_nil)⟩⟩) 5 rfl ?_
  show AW κ pX9_shorten 2 (none, q) 0 [some (aR 9 0 59), some (aI v1), none, none, none, none, none] [] σ
  refine aw_seq [(.iconst 0, 1, (axI 0)), (.istore_n 2, 1, ax0)] (pc' := 2) (L' := [some (aR 9 0 59), some (aI v1), some (aI 0), none, none, none, none]) (stk' := []) (σ' := σ) (g := []) (by decide +kernel) rfl rfl ?_
  refine aw_forget (L' := [some (aR 9 0 59), some (aI v1), some (aI 0), none, none, none, none]) (lsub_s (lsub_s (lsub_s (lsub_n (lsub_n (lsub_n (lsub_n (lsub_0)))))))) ?_
  exact ok_X9_shorten_2 FU v1 0 σ _ h
def f_X9_measure_44 (s : Nat) (rec_2 : Int32 → Int32 → Sg → Option Sg) (v2 : Int32) (v3 : Int32) (s1 : Int32) (s2 : Int32) (σ : Sg) : Option Sg :=
  grd (inb s1 64 && true) <|
  ltσ (wI σ 60 (ix s1) s2) fun σ1 =>
  rec_2 v2 (v3 + 1) σ1
set_option maxRecDepth 100000 in
set_option maxHeartbeats 4000000 in
theorem ok_X9_measure_44 {κ : Kd} {s : Nat}  {rec_2 : Int32 → Int32 → Sg → Option Sg} (hrec_2 : ∀ (v2 : Int32) (v3 : Int32) (σ : Sg) (q : Sg), rec_2 v2 v3 σ = some q → AW κ pX9_measure 3 (none, q) 2 [some (aR 9 0 59), some (aR 5 0 s), some (aI v2), some (aI v3), none] [] σ) : ∀ (v2 : Int32) (v3 : Int32) (s1 : Int32) (s2 : Int32) (σ : Sg) (q : Sg), f_X9_measure_44 s rec_2 v2 v3 s1 s2 σ = some q → AW κ pX9_measure 3 (none, q) 44 [some (aR 9 0 59), some (aR 5 0 s), some (aI v2), some (aI v3), none] [aI s2, aI s1, aR 13 64 60] σ := by
  intro v2 v3 s1 s2 σ q h
  unfold f_X9_measure_44 at h
  obtain ⟨hg, h⟩ := grd_some h
  obtain ⟨σ1, e2, h⟩ := ltσ_some h
  refine aw_seq [(.iastore, 1, ax0)] (pc' := 45) (L' := [some (aR 9 0 59), some (aR 5 0 s), some (aI v2), some (aI v3), none]) (stk' := []) (σ' := σ1) (g := [inb s1 64]) (by decide +kernel) (by rw [e2]; rfl) hg ?_
  refine aw_seq [(.iinc 3 1, 3, (axI 1))] (pc' := 48) (L' := [some (aR 9 0 59), some (aR 5 0 s), some (aI v2), some (aI (v3 + 1)), none]) (stk' := []) (σ' := σ1) (g := []) (by decide +kernel) rfl rfl ?_
  refine aw_goto (off := (-46)) (tgt := 2) (by decide +kernel) (by decide) ?_
  refine aw_forget (L' := [some (aR 9 0 59), some (aR 5 0 s), some (aI v2), some (aI (v3 + 1)), none]) (lsub_s (lsub_s (lsub_s (lsub_s (lsub_n (lsub_0)))))) ?_
  exact hrec_2 v2 (v3 + 1) σ1 _ h
def f_X9_measure_79 (s : Nat)  : Nat → Int32 → Sg → Option Sg
  | 0, _, _ => none
  | fu + 1, v3, σ =>
    if 8 ≤ v3 then (
      some σ
    ) else (
      bndV (f_X9_shorten v3 σ) fun σ4 =>
      (f_X9_measure_79 s fu) (v3 + 1) σ4
    )
set_option maxRecDepth 100000 in
set_option maxHeartbeats 4000000 in
theorem ok_X9_measure_79 {κ : Kd} {s : Nat}   : ∀ (fu : Nat) (v3 : Int32) (σ : Sg) (q : Sg), f_X9_measure_79 s fu v3 σ = some q → AW κ pX9_measure 3 (none, q) 79 [some (aR 9 0 59), none, none, some (aI v3), none] [] σ := by
  intro fu
  induction fu with
  | zero =>
    intro v3 σ q h
    unfold f_X9_measure_79 at h
    cases h
  | succ fu ih =>
    intro v3 σ q h
    unfold f_X9_measure_79 at h
    refine aw_seq [(.iload_n 3, 1, ax0), (.bipush 8, 2, (axI 8))] (pc' := 82) (L' := [some (aR 9 0 59), none, none, some (aI v3), none]) (stk' := [aI 8, aI v3]) (σ' := σ) (g := []) (by decide +kernel) rfl rfl ?_
    refine aw_icmp_ge (off := 14) (tgt := 96) (by decide +kernel) (by decide) (fun c1 => ?_) (fun c1 => ?_)
    · rw [if_pos c1] at h
      cases h
      exact aw_vret rfl (by decide +kernel)
    · rw [if_neg c1] at h
      refine aw_seq [(.aload_n 0, 1, ax0), (.iload_n 3, 1, ax0)] (pc' := 87) (L' := [some (aR 9 0 59), none, none, some (aI v3), none]) (stk' := [aI v3, aR 9 0 59]) (σ' := σ) (g := []) (by decide +kernel) rfl rfl ?_
      obtain ⟨σ4, h3, h⟩ := bndV_some h
      refine aw_cV (P' := pX9_shorten) (idx := 22) (d' := 2) (c := 9) (n := 0) (k := 59) [aI v3] [] (ov := none) (stk2 := []) okp_X9_shorten (by decide +kernel) ml_RX9_22 vok_X9_shorten (by decide) rfl nar_X9_shorten (by decide) rfl (Nat.le_of_ble_eq_true rfl) (ok_X9_shorten h3) rfl ?_
      refine aw_seq [(.iinc 3 1, 3, (axI 1))] (pc' := 93) (L' := [some (aR 9 0 59), none, none, some (aI (v3 + 1)), none]) (stk' := []) (σ' := σ4) (g := []) (by decide +kernel) rfl rfl ?_
      refine aw_goto (off := (-14)) (tgt := 79) (by decide +kernel) (by decide) ?_
      refine aw_forget (L' := [some (aR 9 0 59), none, none, some (aI (v3 + 1)), none]) (lsub_s (lsub_n (lsub_n (lsub_s (lsub_n (lsub_0)))))) ?_
      exact ih (v3 + 1) σ4 _ h
def f_X9_measure_53 (s : Nat)  : Nat → Int32 → Sg → Option Sg
  | 0, _, _ => none
  | fu + 1, v3, σ =>
    if 8 ≤ v3 then (
      f_X9_measure_79 s FU 0 σ
    ) else (
      grd (inb ((v3 * 8) + v3) 64 && true) <|
      ltσ (wI σ 60 (ix ((v3 * 8) + v3)) 0) fun σ5 =>
      (f_X9_measure_53 s fu) (v3 + 1) σ5
    )
set_option maxRecDepth 100000 in
set_option maxHeartbeats 4000000 in
theorem ok_X9_measure_53 {κ : Kd} {s : Nat}   : ∀ (fu : Nat) (v3 : Int32) (σ : Sg) (q : Sg), f_X9_measure_53 s fu v3 σ = some q → AW κ pX9_measure 3 (none, q) 53 [some (aR 9 0 59), none, none, some (aI v3), none] [] σ := by
  intro fu
  induction fu with
  | zero =>
    intro v3 σ q h
    unfold f_X9_measure_53 at h
    cases h
  | succ fu ih =>
    intro v3 σ q h
    unfold f_X9_measure_53 at h
    refine aw_seq [(.iload_n 3, 1, ax0), (.bipush 8, 2, (axI 8))] (pc' := 56) (L' := [some (aR 9 0 59), none, none, some (aI v3), none]) (stk' := [aI 8, aI v3]) (σ' := σ) (g := []) (by decide +kernel) rfl rfl ?_
    refine aw_icmp_ge (off := 21) (tgt := 77) (by decide +kernel) (by decide) (fun c1 => ?_) (fun c1 => ?_)
    · rw [if_pos c1] at h
      refine aw_seq [(.iconst 0, 1, (axI 0)), (.istore_n 3, 1, ax0)] (pc' := 79) (L' := [some (aR 9 0 59), none, none, some (aI 0), none]) (stk' := []) (σ' := σ) (g := []) (by decide +kernel) rfl rfl ?_
      refine aw_forget (L' := [some (aR 9 0 59), none, none, some (aI 0), none]) (lsub_s (lsub_n (lsub_n (lsub_s (lsub_n (lsub_0)))))) ?_
      exact ok_X9_measure_79 FU 0 σ _ h
    · rw [if_neg c1] at h
      obtain ⟨hg, h⟩ := grd_some h
      obtain ⟨σ5, e6, h⟩ := ltσ_some h
      refine aw_seq [(.aload_n 0, 1, ax0), (.getfield 9, 3, (axF 9 0 (2, 1, 13, some 64))), (.iload_n 3, 1, ax0), (.bipush 8, 2, (axI 8)), (.imul, 1, ax0), (.iload_n 3, 1, ax0), (.iadd, 1, ax0), (.iconst 0, 1, (axI 0)), (.iastore, 1, ax0)] (pc' := 71) (L' := [some (aR 9 0 59), none, none, some (aI v3), none]) (stk' := []) (σ' := σ5) (g := [inb ((v3 * 8) + v3) 64]) (by decide +kernel) (by rw [e6]; rfl) hg ?_
      refine aw_seq [(.iinc 3 1, 3, (axI 1))] (pc' := 74) (L' := [some (aR 9 0 59), none, none, some (aI (v3 + 1)), none]) (stk' := []) (σ' := σ5) (g := []) (by decide +kernel) rfl rfl ?_
      refine aw_goto (off := (-21)) (tgt := 53) (by decide +kernel) (by decide) ?_
      refine aw_forget (L' := [some (aR 9 0 59), none, none, some (aI (v3 + 1)), none]) (lsub_s (lsub_n (lsub_n (lsub_s (lsub_n (lsub_0)))))) ?_
      exact ih (v3 + 1) σ5 _ h
def f_X9_measure_2 (s : Nat)  : Nat → Int32 → Int32 → Sg → Option Sg
  | 0, _, _, _ => none
  | fu + 1, v2, v3, σ =>
    if 64 ≤ v3 then (
      f_X9_measure_53 s FU 0 σ
    ) else (
      grd (inb v3 64 && true) <|
      if (σ.1 (s + 1) (ix v3)) = 0 then (
        f_X9_measure_44 s (f_X9_measure_2 s fu) v2 v3 v3 1000000 σ
      ) else (
        if v2 = 0 then (
          f_X9_measure_44 s (f_X9_measure_2 s fu) v2 v3 v3 (σ.1 (s + 1) (ix v3)) σ
        ) else (
          f_X9_measure_44 s (f_X9_measure_2 s fu) v2 v3 v3 1 σ
        )
      )
    )
set_option maxRecDepth 100000 in
set_option maxHeartbeats 4000000 in
theorem ok_X9_measure_2 {κ : Kd} {s : Nat}   : ∀ (fu : Nat) (v2 : Int32) (v3 : Int32) (σ : Sg) (q : Sg), f_X9_measure_2 s fu v2 v3 σ = some q → AW κ pX9_measure 3 (none, q) 2 [some (aR 9 0 59), some (aR 5 0 s), some (aI v2), some (aI v3), none] [] σ := by
  intro fu
  induction fu with
  | zero =>
    intro v2 v3 σ q h
    unfold f_X9_measure_2 at h
    cases h
  | succ fu ih =>
    intro v2 v3 σ q h
    unfold f_X9_measure_2 at h
    refine aw_seq [(.iload_n 3, 1, ax0), (.aload_n 0, 1, ax0), (.getfield 9, 3, (axF 9 0 (2, 1, 13, some 64))), (.arraylength, 1, ax0)] (pc' := 8) (L' := [some (aR 9 0 59), some (aR 5 0 s), some (aI v2), some (aI v3), none]) (stk' := [aI 64, aI v3]) (σ' := σ) (g := []) (by decide +kernel) rfl rfl ?_
    refine aw_icmp_ge (off := 43) (tgt := 51) (by decide +kernel) (by decide) (fun c1 => ?_) (fun c1 => ?_)
    · rw [if_pos c1] at h
      refine aw_seq [(.iconst 0, 1, (axI 0)), (.istore_n 3, 1, ax0)] (pc' := 53) (L' := [some (aR 9 0 59), some (aR 5 0 s), some (aI v2), some (aI 0), none]) (stk' := []) (σ' := σ) (g := []) (by decide +kernel) rfl rfl ?_
      refine aw_forget (L' := [some (aR 9 0 59), none, none, some (aI 0), none]) (lsub_s (lsub_n (lsub_n (lsub_s (lsub_n (lsub_0)))))) ?_
      exact ok_X9_measure_53 FU 0 σ _ h
    · rw [if_neg c1] at h
      obtain ⟨hg, h⟩ := grd_some h
      refine aw_seq [(.aload_n 1, 1, ax0), (.getfield 18, 3, (axF 5 0 (2, 1, 13, some 64))), (.iload_n 3, 1, ax0), (.iaload, 1, ax0), (.istore 4, 2, ax0), (.aload_n 0, 1, ax0), (.getfield 9, 3, (axF 9 0 (2, 1, 13, some 64))), (.iload_n 3, 1, ax0), (.iload 4, 2, ax0)] (pc' := 26) (L' := [some (aR 9 0 59), some (aR 5 0 s), some (aI v2), some (aI v3), some (aI (σ.1 (s + 1) (ix v3)))]) (stk' := [aI (σ.1 (s + 1) (ix v3)), aI v3, aR 13 64 60]) (σ' := σ) (g := [inb v3 64]) (by decide +kernel) rfl hg ?_
      refine aw_if_ne (off := 8) (tgt := 34) (by decide +kernel) (by decide) (fun c1 => ?_) (fun c1 => ?_)
      · rw [if_neg c1] at h
        refine aw_seq [(.iload_n 2, 1, ax0)] (pc' := 35) (L' := [some (aR 9 0 59), some (aR 5 0 s), some (aI v2), some (aI v3), some (aI (σ.1 (s + 1) (ix v3)))]) (stk' := [aI v2, aI v3, aR 13 64 60]) (σ' := σ) (g := []) (by decide +kernel) rfl rfl ?_
        refine aw_if_eq (off := 7) (tgt := 42) (by decide +kernel) (by decide) (fun c1 => ?_) (fun c1 => ?_)
        · rw [if_pos c1] at h
          refine aw_seq [(.iload 4, 2, ax0)] (pc' := 44) (L' := [some (aR 9 0 59), some (aR 5 0 s), some (aI v2), some (aI v3), some (aI (σ.1 (s + 1) (ix v3)))]) (stk' := [aI (σ.1 (s + 1) (ix v3)), aI v3, aR 13 64 60]) (σ' := σ) (g := []) (by decide +kernel) rfl rfl ?_
          refine aw_forget (L' := [some (aR 9 0 59), some (aR 5 0 s), some (aI v2), some (aI v3), none]) (lsub_s (lsub_s (lsub_s (lsub_s (lsub_n (lsub_0)))))) ?_
          exact ok_X9_measure_44 ih v2 v3 v3 (σ.1 (s + 1) (ix v3)) σ _ h
        · rw [if_neg c1] at h
          refine aw_seq [(.iconst 1, 1, (axI 1))] (pc' := 39) (L' := [some (aR 9 0 59), some (aR 5 0 s), some (aI v2), some (aI v3), some (aI (σ.1 (s + 1) (ix v3)))]) (stk' := [aI 1, aI v3, aR 13 64 60]) (σ' := σ) (g := []) (by decide +kernel) rfl rfl ?_
          refine aw_goto (off := 5) (tgt := 44) (by decide +kernel) (by decide) ?_
          refine aw_forget (L' := [some (aR 9 0 59), some (aR 5 0 s), some (aI v2), some (aI v3), none]) (lsub_s (lsub_s (lsub_s (lsub_s (lsub_n (lsub_0)))))) ?_
          exact ok_X9_measure_44 ih v2 v3 v3 1 σ _ h
      · rw [if_pos c1] at h
        refine aw_seq [(.ldc 21, 2, (axI 1000000))] (pc' := 31) (L' := [some (aR 9 0 59), some (aR 5 0 s), some (aI v2), some (aI v3), some (aI (σ.1 (s + 1) (ix v3)))]) (stk' := [aI 1000000, aI v3, aR 13 64 60]) (σ' := σ) (g := []) (by decide +kernel) rfl rfl ?_
        refine aw_goto (off := 13) (tgt := 44) (by decide +kernel) (by decide) ?_
        refine aw_forget (L' := [some (aR 9 0 59), some (aR 5 0 s), some (aI v2), some (aI v3), none]) (lsub_s (lsub_s (lsub_s (lsub_s (lsub_n (lsub_0)))))) ?_
        exact ok_X9_measure_44 ih v2 v3 v3 1000000 σ _ h
def f_X9_measure (s : Nat) (v2 : Int32) (σ : Sg) : Option Sg :=
  f_X9_measure_2 s FU v2 0 σ
set_option maxRecDepth 100000 in
set_option maxHeartbeats 4000000 in
theorem ok_X9_measure {κ : Kd} {s : Nat} {v2 : Int32} {σ : Sg} {q : Sg} (h : f_X9_measure s v2 σ = some q) : AMet κ pX9_measure 3 [aR 9 0 59, aR 5 0 s, aI v2] σ (none, q) := by
  unfold f_X9_measure at h
  refine amet_of okp_X9_measure [(false, aR 9 0 59), (false, aR 5 0 s), (false, aI v2)] (List.forall_mem_cons.mpr ⟨rfl, List.forall_mem_cons.mpr ⟨rfl, List.forall_mem_cons.mpr ⟨rfl, (fun _ hn => absurd hn List.not_mem_nil)⟩⟩⟩) 2 rfl ?_
  show AW κ pX9_measure 3 (none, q) 0 [some (aR 9 0 59), some (aR 5 0 s), some (aI v2), none, none] [] σ
  refine aw_seq [(.iconst 0, 1, (axI 0)), (.istore_n 3, 1, ax0)] (pc' := 2) (L' := [some (aR 9 0 59), some (aR 5 0 s), some (aI v2), some (aI 0), none]) (stk' := []) (σ' := σ) (g := []) (by decide +kernel) rfl rfl ?_
  refine aw_forget (L' := [some (aR 9 0 59), some (aR 5 0 s), some (aI v2), some (aI 0), none]) (lsub_s (lsub_s (lsub_s (lsub_s (lsub_n (lsub_0)))))) ?_
  exact ok_X9_measure_2 FU v2 0 σ _ h
def f_X11_far_28    (σ : Sg) : Option (Int32 × Sg) :=
  some ((-1), σ)
set_option maxRecDepth 100000 in
set_option maxHeartbeats 4000000 in
theorem ok_X11_far_28 {κ : Kd}    : ∀  (σ : Sg) (q : (Int32 × Sg)), f_X11_far_28  σ = some q → AW κ pX11_far 4 (some (aI q.1), q.2) 28 [none, none, none, none] [] σ := by
  intro  σ q h
  unfold f_X11_far_28 at h
  refine aw_seq [(.iconst (-1), 1, (axI (-1)))] (pc' := 29) (L' := [none, none, none, none]) (stk' := [aI (-1)]) (σ' := σ) (g := []) (by decide +kernel) rfl rfl ?_
  cases h
  exact aw_iret rfl (by decide +kernel)
def f_X11_far_66   (s0 : Int32) (σ : Sg) : Option (Int32 × Sg) :=
  some (s0, σ)
set_option maxRecDepth 100000 in
set_option maxHeartbeats 4000000 in
theorem ok_X11_far_66 {κ : Kd}    : ∀ (s0 : Int32) (σ : Sg) (q : (Int32 × Sg)), f_X11_far_66 s0 σ = some q → AW κ pX11_far 4 (some (aI q.1), q.2) 66 [none, none, none, none] [aI s0] σ := by
  intro s0 σ q h
  unfold f_X11_far_66 at h
  cases h
  exact aw_iret rfl (by decide +kernel)
def f_X11_far (v1 : Int32) (v2 : Int32) (σ : Sg) : Option (Int32 × Sg) :=
  bnd (f_X8_told 2 v1 σ) fun r3 σ2 =>
  if r3 = 0 then (
    f_X11_far_28 σ2
  ) else (
    bnd (f_X8_told 2 v2 σ2) fun r6 σ5 =>
    if r6 = 0 then (
      f_X11_far_28 σ5
    ) else (
      bndV (f_X9_measure 8 0 σ5) fun σ8 =>
      bnd (f_X9_between v1 v2 σ8) fun r11 σ10 =>
      if 1000000 ≤ r11 then (
        f_X11_far_66 (-1) σ10
      ) else (
        f_X11_far_66 r11 σ10
      )
    )
  )
set_option maxRecDepth 100000 in
set_option maxHeartbeats 4000000 in
theorem ok_X11_far {κ : Kd} {v1 : Int32} {v2 : Int32} {σ : Sg} {q : (Int32 × Sg)} (h : f_X11_far v1 v2 σ = some q) : AMet κ pX11_far 4 [aR 11 0 0, aI v1, aI v2] σ (some (aI q.1), q.2) := by
  unfold f_X11_far at h
  refine amet_of okp_X11_far [(false, aR 11 0 0), (false, aI v1), (false, aI v2)] (List.forall_mem_cons.mpr ⟨rfl, List.forall_mem_cons.mpr ⟨rfl, List.forall_mem_cons.mpr ⟨rfl, (fun _ hn => absurd hn List.not_mem_nil)⟩⟩⟩) 1 rfl ?_
  show AW κ pX11_far 4 (some (aI q.1), q.2) 0 [some (aR 11 0 0), some (aI v1), some (aI v2), none] [] σ
  refine aw_seq [(.aload_n 0, 1, ax0), (.getfield 10, 3, (axF 11 0 (2, 1, 10, some 0))), (.getfield 68, 3, (axF 10 0 (2, 1, 8, some 0))), (.iload_n 1, 1, ax0)] (pc' := 8) (L' := [some (aR 11 0 0), some (aI v1), some (aI v2), none]) (stk' := [aI v1, aR 8 0 2]) (σ' := σ) (g := []) (by decide +kernel) rfl rfl ?_
  obtain ⟨r3, σ2, h1, h⟩ := bnd_some h
  refine aw_cV (P' := pX8_told) (idx := 75) (d' := 1) (c := 8) (n := 0) (k := 2) [aI v1] [] (ov := (some (aI r3))) (stk2 := [aI r3]) okp_X8_told (by decide +kernel) ml_RX11_75 vok_X8_told (by decide) rfl nar_X8_told (by decide) rfl (Nat.le_of_ble_eq_true rfl) (ok_X8_told h1) rfl ?_
  refine aw_if_eq (off := 17) (tgt := 28) (by decide +kernel) (by decide) (fun c1 => ?_) (fun c1 => ?_)
  · rw [if_pos c1] at h
    refine aw_forget (L' := [none, none, none, none]) (lsub_n (lsub_n (lsub_n (lsub_n (lsub_0))))) ?_
    exact ok_X11_far_28 σ2 _ h
  · rw [if_neg c1] at h
    refine aw_seq [(.aload_n 0, 1, ax0), (.getfield 10, 3, (axF 11 0 (2, 1, 10, some 0))), (.getfield 68, 3, (axF 10 0 (2, 1, 8, some 0))), (.iload_n 2, 1, ax0)] (pc' := 22) (L' := [some (aR 11 0 0), some (aI v1), some (aI v2), none]) (stk' := [aI v2, aR 8 0 2]) (σ' := σ2) (g := []) (by decide +kernel) rfl rfl ?_
    obtain ⟨r6, σ5, h4, h⟩ := bnd_some h
    refine aw_cV (P' := pX8_told) (idx := 75) (d' := 1) (c := 8) (n := 0) (k := 2) [aI v2] [] (ov := (some (aI r6))) (stk2 := [aI r6]) okp_X8_told (by decide +kernel) ml_RX11_75 vok_X8_told (by decide) rfl nar_X8_told (by decide) rfl (Nat.le_of_ble_eq_true rfl) (ok_X8_told h4) rfl ?_
    refine aw_if_ne (off := 5) (tgt := 30) (by decide +kernel) (by decide) (fun c1 => ?_) (fun c1 => ?_)
    · rw [if_neg c1] at h
      refine aw_seq [(.aload_n 0, 1, ax0), (.getfield 43, 3, (axF 11 5 (2, 59, 9, some 0))), (.aload_n 0, 1, ax0), (.getfield 10, 3, (axF 11 0 (2, 1, 10, some 0))), (.getfield 83, 3, (axF 10 1 (2, 7, 5, some 0))), (.iconst 0, 1, (axI 0))] (pc' := 42) (L' := [some (aR 11 0 0), some (aI v1), some (aI v2), none]) (stk' := [aI 0, aR 5 0 8, aR 9 0 59]) (σ' := σ5) (g := []) (by decide +kernel) rfl rfl ?_
      obtain ⟨σ8, h7, h⟩ := bndV_some h
      refine aw_cV (P' := pX9_measure) (idx := 246) (d' := 3) (c := 9) (n := 0) (k := 59) [aR 5 0 8, aI 0] [] (ov := none) (stk2 := []) okp_X9_measure (by decide +kernel) ml_RX11_246 vok_X9_measure (by decide) rfl nar_X9_measure (by decide) rfl (Nat.le_of_ble_eq_true rfl) (ok_X9_measure h7) rfl ?_
      refine aw_seq [(.aload_n 0, 1, ax0), (.getfield 43, 3, (axF 11 5 (2, 59, 9, some 0))), (.iload_n 1, 1, ax0), (.iload_n 2, 1, ax0)] (pc' := 51) (L' := [some (aR 11 0 0), some (aI v1), some (aI v2), none]) (stk' := [aI v2, aI v1, aR 9 0 59]) (σ' := σ8) (g := []) (by decide +kernel) rfl rfl ?_
      obtain ⟨r11, σ10, h9, h⟩ := bnd_some h
      refine aw_cV (P' := pX9_between) (idx := 250) (d' := 1) (c := 9) (n := 0) (k := 59) [aI v1, aI v2] [] (ov := (some (aI r11))) (stk2 := [aI r11]) okp_X9_between (by decide +kernel) ml_RX11_250 vok_X9_between (by decide) rfl nar_X9_between (by decide) rfl (Nat.le_of_ble_eq_true rfl) (ok_X9_between h9) rfl ?_
      refine aw_seq [(.istore_n 3, 1, ax0), (.iload_n 3, 1, ax0), (.ldc 253, 2, (axI 1000000))] (pc' := 58) (L' := [some (aR 11 0 0), some (aI v1), some (aI v2), some (aI r11)]) (stk' := [aI 1000000, aI r11]) (σ' := σ10) (g := []) (by decide +kernel) rfl rfl ?_
      refine aw_icmp_ge (off := 7) (tgt := 65) (by decide +kernel) (by decide) (fun c1 => ?_) (fun c1 => ?_)
      · rw [if_pos c1] at h
        refine aw_seq [(.iconst (-1), 1, (axI (-1)))] (pc' := 66) (L' := [some (aR 11 0 0), some (aI v1), some (aI v2), some (aI r11)]) (stk' := [aI (-1)]) (σ' := σ10) (g := []) (by decide +kernel) rfl rfl ?_
        refine aw_forget (L' := [none, none, none, none]) (lsub_n (lsub_n (lsub_n (lsub_n (lsub_0))))) ?_
        exact ok_X11_far_66 (-1) σ10 _ h
      · rw [if_neg c1] at h
        refine aw_seq [(.iload_n 3, 1, ax0)] (pc' := 62) (L' := [some (aR 11 0 0), some (aI v1), some (aI v2), some (aI r11)]) (stk' := [aI r11]) (σ' := σ10) (g := []) (by decide +kernel) rfl rfl ?_
        refine aw_goto (off := 4) (tgt := 66) (by decide +kernel) (by decide) ?_
        refine aw_forget (L' := [none, none, none, none]) (lsub_n (lsub_n (lsub_n (lsub_n (lsub_0))))) ?_
        exact ok_X11_far_66 r11 σ10 _ h
    · rw [if_pos c1] at h
      refine aw_forget (L' := [none, none, none, none]) (lsub_n (lsub_n (lsub_n (lsub_n (lsub_0))))) ?_
      exact ok_X11_far_28 σ5 _ h
def f_X5_odd_4 (s : Nat)  : Nat → Int32 → Int32 → Sg → Option (Int32 × Sg)
  | 0, _, _, _ => none
  | fu + 1, v1, v2, σ =>
    if 8 ≤ v2 then (
      some (v1, σ)
    ) else (
      grd (inb v2 8 && true) <|
      bnd (f_J6_bitCount_0f7a4 (σ.1 (s + 2) (ix v2)) σ) fun r3 σ2 =>
      (f_X5_odd_4 s fu) (v1 ||| (shl (r3 &&& 1) v2)) (v2 + 1) σ2
    )
set_option maxRecDepth 100000 in
set_option maxHeartbeats 4000000 in
theorem ok_X5_odd_4 {κ : Kd} {s : Nat}   : ∀ (fu : Nat) (v1 : Int32) (v2 : Int32) (σ : Sg) (q : (Int32 × Sg)), f_X5_odd_4 s fu v1 v2 σ = some q → AW κ pX5_odd 2 (some (aI q.1), q.2) 4 [some (aR 5 0 s), some (aI v1), some (aI v2)] [] σ := by
  intro fu
  induction fu with
  | zero =>
    intro v1 v2 σ q h
    unfold f_X5_odd_4 at h
    cases h
  | succ fu ih =>
    intro v1 v2 σ q h
    unfold f_X5_odd_4 at h
    refine aw_seq [(.iload_n 2, 1, ax0), (.bipush 8, 2, (axI 8))] (pc' := 7) (L' := [some (aR 5 0 s), some (aI v1), some (aI v2)]) (stk' := [aI 8, aI v2]) (σ' := σ) (g := []) (by decide +kernel) rfl rfl ?_
    refine aw_icmp_ge (off := 25) (tgt := 32) (by decide +kernel) (by decide) (fun c1 => ?_) (fun c1 => ?_)
    · rw [if_pos c1] at h
      refine aw_seq [(.iload_n 1, 1, ax0)] (pc' := 33) (L' := [some (aR 5 0 s), some (aI v1), some (aI v2)]) (stk' := [aI v1]) (σ' := σ) (g := []) (by decide +kernel) rfl rfl ?_
      cases h
      exact aw_iret rfl (by decide +kernel)
    · rw [if_neg c1] at h
      obtain ⟨hg, h⟩ := grd_some h
      refine aw_seq [(.iload_n 1, 1, ax0), (.aload_n 0, 1, ax0), (.getfield 15, 3, (axF 5 1 (2, 2, 13, some 8))), (.iload_n 2, 1, ax0), (.iaload, 1, ax0)] (pc' := 17) (L' := [some (aR 5 0 s), some (aI v1), some (aI v2)]) (stk' := [aI (σ.1 (s + 2) (ix v2)), aI v1]) (σ' := σ) (g := [inb v2 8]) (by decide +kernel) rfl hg ?_
      obtain ⟨r3, σ2, h1, h⟩ := bnd_some h
      refine aw_cS (P' := pJ6_bitCount_0f7a4) (idx := 24) (d' := 1) [aI (σ.1 (s + 2) (ix v2))] [aI v1] (ov := (some (aI r3))) (stk2 := [aI r3, aI v1]) okp_J6_bitCount_0f7a4 (by decide +kernel) ml_RX5_24 tok_J6_bitCount_0f7a4 nar_J6_bitCount_0f7a4 (by decide) rfl (Nat.le_of_ble_eq_true rfl) (ok_J6_bitCount_0f7a4 h1) rfl ?_
      refine aw_seq [(.iconst 1, 1, (axI 1)), (.iand, 1, ax0), (.iload_n 2, 1, ax0), (.ishl, 1, ax0), (.ior, 1, ax0), (.istore_n 1, 1, ax0), (.iinc 2 1, 3, (axI 1))] (pc' := 29) (L' := [some (aR 5 0 s), some (aI (v1 ||| (shl (r3 &&& 1) v2))), some (aI (v2 + 1))]) (stk' := []) (σ' := σ2) (g := []) (by decide +kernel) rfl rfl ?_
      refine aw_goto (off := (-25)) (tgt := 4) (by decide +kernel) (by decide) ?_
      refine aw_forget (L' := [some (aR 5 0 s), some (aI (v1 ||| (shl (r3 &&& 1) v2))), some (aI (v2 + 1))]) (lsub_s (lsub_s (lsub_s (lsub_0)))) ?_
      exact ih (v1 ||| (shl (r3 &&& 1) v2)) (v2 + 1) σ2 _ h
def f_X5_odd (s : Nat) (σ : Sg) : Option (Int32 × Sg) :=
  f_X5_odd_4 s FU 0 0 σ
set_option maxRecDepth 100000 in
set_option maxHeartbeats 4000000 in
theorem ok_X5_odd {κ : Kd} {s : Nat} {σ : Sg} {q : (Int32 × Sg)} (h : f_X5_odd s σ = some q) : AMet κ pX5_odd 2 [aR 5 0 s] σ (some (aI q.1), q.2) := by
  unfold f_X5_odd at h
  refine amet_of okp_X5_odd [(false, aR 5 0 s)] (List.forall_mem_cons.mpr ⟨rfl, (fun _ hn => absurd hn List.not_mem_nil)⟩) 2 rfl ?_
  show AW κ pX5_odd 2 (some (aI q.1), q.2) 0 [some (aR 5 0 s), none, none] [] σ
  refine aw_seq [(.iconst 0, 1, (axI 0)), (.istore_n 1, 1, ax0), (.iconst 0, 1, (axI 0)), (.istore_n 2, 1, ax0)] (pc' := 4) (L' := [some (aR 5 0 s), some (aI 0), some (aI 0)]) (stk' := []) (σ' := σ) (g := []) (by decide +kernel) rfl rfl ?_
  refine aw_forget (L' := [some (aR 5 0 s), some (aI 0), some (aI 0)]) (lsub_s (lsub_s (lsub_s (lsub_0)))) ?_
  exact ok_X5_odd_4 FU 0 0 σ _ h
def f_X5_besideAll_28 (s : Nat) (rec_4 : Int32 → Int32 → Int32 → Sg → Option (Int32 × Sg)) (v1 : Int32) (v2 : Int32) (v3 : Int32) (σ : Sg) : Option (Int32 × Sg) :=
  rec_4 v1 v2 (v3 + 1) σ
set_option maxRecDepth 100000 in
set_option maxHeartbeats 4000000 in
theorem ok_X5_besideAll_28 {κ : Kd} {s : Nat}  {rec_4 : Int32 → Int32 → Int32 → Sg → Option (Int32 × Sg)} (hrec_4 : ∀ (v1 : Int32) (v2 : Int32) (v3 : Int32) (σ : Sg) (q : (Int32 × Sg)), rec_4 v1 v2 v3 σ = some q → AW κ pX5_besideAll 1 (some (aI q.1), q.2) 4 [some (aR 5 0 s), some (aI v1), some (aI v2), some (aI v3)] [] σ) : ∀ (v1 : Int32) (v2 : Int32) (v3 : Int32) (σ : Sg) (q : (Int32 × Sg)), f_X5_besideAll_28 s rec_4 v1 v2 v3 σ = some q → AW κ pX5_besideAll 1 (some (aI q.1), q.2) 28 [some (aR 5 0 s), some (aI v1), some (aI v2), some (aI v3)] [] σ := by
  intro v1 v2 v3 σ q h
  unfold f_X5_besideAll_28 at h
  refine aw_seq [(.iinc 3 1, 3, (axI 1))] (pc' := 31) (L' := [some (aR 5 0 s), some (aI v1), some (aI v2), some (aI (v3 + 1))]) (stk' := []) (σ' := σ) (g := []) (by decide +kernel) rfl rfl ?_
  refine aw_goto (off := (-27)) (tgt := 4) (by decide +kernel) (by decide) ?_
  refine aw_forget (L' := [some (aR 5 0 s), some (aI v1), some (aI v2), some (aI (v3 + 1))]) (lsub_s (lsub_s (lsub_s (lsub_s (lsub_0))))) ?_
  exact hrec_4 v1 v2 (v3 + 1) σ _ h
def f_X5_besideAll_4 (s : Nat)  : Nat → Int32 → Int32 → Int32 → Sg → Option (Int32 × Sg)
  | 0, _, _, _, _ => none
  | fu + 1, v1, v2, v3, σ =>
    if 8 ≤ v3 then (
      some (v2, σ)
    ) else (
      if ((shr v1 v3) &&& 1) = 1 then (
        grd (inb v3 8 && true) <|
        f_X5_besideAll_28 s (f_X5_besideAll_4 s fu) v1 (v2 ||| (σ.1 (s + 2) (ix v3))) v3 σ
      ) else (
        f_X5_besideAll_28 s (f_X5_besideAll_4 s fu) v1 v2 v3 σ
      )
    )
set_option maxRecDepth 100000 in
set_option maxHeartbeats 4000000 in
theorem ok_X5_besideAll_4 {κ : Kd} {s : Nat}   : ∀ (fu : Nat) (v1 : Int32) (v2 : Int32) (v3 : Int32) (σ : Sg) (q : (Int32 × Sg)), f_X5_besideAll_4 s fu v1 v2 v3 σ = some q → AW κ pX5_besideAll 1 (some (aI q.1), q.2) 4 [some (aR 5 0 s), some (aI v1), some (aI v2), some (aI v3)] [] σ := by
  intro fu
  induction fu with
  | zero =>
    intro v1 v2 v3 σ q h
    unfold f_X5_besideAll_4 at h
    cases h
  | succ fu ih =>
    intro v1 v2 v3 σ q h
    unfold f_X5_besideAll_4 at h
    refine aw_seq [(.iload_n 3, 1, ax0), (.bipush 8, 2, (axI 8))] (pc' := 7) (L' := [some (aR 5 0 s), some (aI v1), some (aI v2), some (aI v3)]) (stk' := [aI 8, aI v3]) (σ' := σ) (g := []) (by decide +kernel) rfl rfl ?_
    refine aw_icmp_ge (off := 27) (tgt := 34) (by decide +kernel) (by decide) (fun c1 => ?_) (fun c1 => ?_)
    · rw [if_pos c1] at h
      refine aw_seq [(.iload_n 2, 1, ax0)] (pc' := 35) (L' := [some (aR 5 0 s), some (aI v1), some (aI v2), some (aI v3)]) (stk' := [aI v2]) (σ' := σ) (g := []) (by decide +kernel) rfl rfl ?_
      cases h
      exact aw_iret rfl (by decide +kernel)
    · rw [if_neg c1] at h
      refine aw_seq [(.iload_n 1, 1, ax0), (.iload_n 3, 1, ax0), (.ishr, 1, ax0), (.iconst 1, 1, (axI 1)), (.iand, 1, ax0), (.iconst 1, 1, (axI 1))] (pc' := 16) (L' := [some (aR 5 0 s), some (aI v1), some (aI v2), some (aI v3)]) (stk' := [aI 1, aI ((shr v1 v3) &&& 1)]) (σ' := σ) (g := []) (by decide +kernel) rfl rfl ?_
      refine aw_icmp_ne (off := 12) (tgt := 28) (by decide +kernel) (by decide) (fun c1 => ?_) (fun c1 => ?_)
      · rw [if_neg c1] at h
        refine aw_forget (L' := [some (aR 5 0 s), some (aI v1), some (aI v2), some (aI v3)]) (lsub_s (lsub_s (lsub_s (lsub_s (lsub_0))))) ?_
        exact ok_X5_besideAll_28 ih v1 v2 v3 σ _ h
      · rw [if_pos c1] at h
        obtain ⟨hg, h⟩ := grd_some h
        refine aw_seq [(.iload_n 2, 1, ax0), (.aload_n 0, 1, ax0), (.getfield 15, 3, (axF 5 1 (2, 2, 13, some 8))), (.iload_n 3, 1, ax0), (.iaload, 1, ax0), (.ior, 1, ax0), (.istore_n 2, 1, ax0)] (pc' := 28) (L' := [some (aR 5 0 s), some (aI v1), some (aI (v2 ||| (σ.1 (s + 2) (ix v3)))), some (aI v3)]) (stk' := []) (σ' := σ) (g := [inb v3 8]) (by decide +kernel) rfl hg ?_
        refine aw_forget (L' := [some (aR 5 0 s), some (aI v1), some (aI (v2 ||| (σ.1 (s + 2) (ix v3)))), some (aI v3)]) (lsub_s (lsub_s (lsub_s (lsub_s (lsub_0))))) ?_
        exact ok_X5_besideAll_28 ih v1 (v2 ||| (σ.1 (s + 2) (ix v3))) v3 σ _ h
def f_X5_besideAll (s : Nat) (v1 : Int32) (σ : Sg) : Option (Int32 × Sg) :=
  f_X5_besideAll_4 s FU v1 0 0 σ
set_option maxRecDepth 100000 in
set_option maxHeartbeats 4000000 in
theorem ok_X5_besideAll {κ : Kd} {s : Nat} {v1 : Int32} {σ : Sg} {q : (Int32 × Sg)} (h : f_X5_besideAll s v1 σ = some q) : AMet κ pX5_besideAll 1 [aR 5 0 s, aI v1] σ (some (aI q.1), q.2) := by
  unfold f_X5_besideAll at h
  refine amet_of okp_X5_besideAll [(false, aR 5 0 s), (false, aI v1)] (List.forall_mem_cons.mpr ⟨rfl, List.forall_mem_cons.mpr ⟨rfl, (fun _ hn => absurd hn List.not_mem_nil)⟩⟩) 2 rfl ?_
  show AW κ pX5_besideAll 1 (some (aI q.1), q.2) 0 [some (aR 5 0 s), some (aI v1), none, none] [] σ
  refine aw_seq [(.iconst 0, 1, (axI 0)), (.istore_n 2, 1, ax0), (.iconst 0, 1, (axI 0)), (.istore_n 3, 1, ax0)] (pc' := 4) (L' := [some (aR 5 0 s), some (aI v1), some (aI 0), some (aI 0)]) (stk' := []) (σ' := σ) (g := []) (by decide +kernel) rfl rfl ?_
  refine aw_forget (L' := [some (aR 5 0 s), some (aI v1), some (aI 0), some (aI 0)]) (lsub_s (lsub_s (lsub_s (lsub_s (lsub_0))))) ?_
  exact ok_X5_besideAll_4 FU v1 0 0 σ _ h
def f_X5_group_42 (s : Nat)  (v2 : Int32) (σ : Sg) : Option (Int32 × Sg) :=
  some (v2, σ)
set_option maxRecDepth 100000 in
set_option maxHeartbeats 4000000 in
theorem ok_X5_group_42 {κ : Kd} {s : Nat}   : ∀ (v2 : Int32) (σ : Sg) (q : (Int32 × Sg)), f_X5_group_42 s v2 σ = some q → AW κ pX5_group 2 (some (aI q.1), q.2) 42 [none, none, some (aI v2), none, none] [] σ := by
  intro v2 σ q h
  unfold f_X5_group_42 at h
  refine aw_seq [(.iload_n 2, 1, ax0)] (pc' := 43) (L' := [none, none, some (aI v2), none, none]) (stk' := [aI v2]) (σ' := σ) (g := []) (by decide +kernel) rfl rfl ?_
  cases h
  exact aw_iret rfl (by decide +kernel)
def f_X5_group_7 (s : Nat)  : Nat → Int32 → Int32 → Int32 → Sg → Option (Int32 × Sg)
  | 0, _, _, _, _ => none
  | fu + 1, v1, v2, v3, σ =>
    if 8 ≤ v3 then (
      f_X5_group_42 s v2 σ
    ) else (
      bnd (f_X5_besideAll s v2 σ) fun r3 σ2 =>
      if (v2 ||| (r3 &&& v1)) = v2 then (
        f_X5_group_42 s v2 σ2
      ) else (
        (f_X5_group_7 s fu) v1 (v2 ||| (r3 &&& v1)) (v3 + 1) σ2
      )
    )
set_option maxRecDepth 100000 in
set_option maxHeartbeats 4000000 in
theorem ok_X5_group_7 {κ : Kd} {s : Nat}   : ∀ (fu : Nat) (v1 : Int32) (v2 : Int32) (v3 : Int32) (σ : Sg) (q : (Int32 × Sg)), f_X5_group_7 s fu v1 v2 v3 σ = some q → AW κ pX5_group 2 (some (aI q.1), q.2) 7 [some (aR 5 0 s), some (aI v1), some (aI v2), some (aI v3), none] [] σ := by
  intro fu
  induction fu with
  | zero =>
    intro v1 v2 v3 σ q h
    unfold f_X5_group_7 at h
    cases h
  | succ fu ih =>
    intro v1 v2 v3 σ q h
    unfold f_X5_group_7 at h
    refine aw_seq [(.iload_n 3, 1, ax0), (.bipush 8, 2, (axI 8))] (pc' := 10) (L' := [some (aR 5 0 s), some (aI v1), some (aI v2), some (aI v3), none]) (stk' := [aI 8, aI v3]) (σ' := σ) (g := []) (by decide +kernel) rfl rfl ?_
    refine aw_icmp_ge (off := 32) (tgt := 42) (by decide +kernel) (by decide) (fun c1 => ?_) (fun c1 => ?_)
    · rw [if_pos c1] at h
      refine aw_forget (L' := [none, none, some (aI v2), none, none]) (lsub_n (lsub_n (lsub_s (lsub_n (lsub_n (lsub_0)))))) ?_
      exact ok_X5_group_42 v2 σ _ h
    · rw [if_neg c1] at h
      refine aw_seq [(.iload_n 2, 1, ax0), (.aload_n 0, 1, ax0), (.iload_n 2, 1, ax0)] (pc' := 16) (L' := [some (aR 5 0 s), some (aI v1), some (aI v2), some (aI v3), none]) (stk' := [aI v2, aR 5 0 s, aI v2]) (σ' := σ) (g := []) (by decide +kernel) rfl rfl ?_
      obtain ⟨r3, σ2, h1, h⟩ := bnd_some h
      refine aw_cV (P' := pX5_besideAll) (idx := 30) (d' := 1) (c := 5) (n := 0) (k := s) [aI v2] [aI v2] (ov := (some (aI r3))) (stk2 := [aI r3, aI v2]) okp_X5_besideAll (by decide +kernel) ml_RX5_30 vok_X5_besideAll (by decide) rfl nar_X5_besideAll (by decide) rfl (Nat.le_of_ble_eq_true rfl) (ok_X5_besideAll h1) rfl ?_
      refine aw_seq [(.iload_n 1, 1, ax0), (.iand, 1, ax0), (.ior, 1, ax0), (.istore 4, 2, ax0), (.iload 4, 2, ax0), (.iload_n 2, 1, ax0)] (pc' := 27) (L' := [some (aR 5 0 s), some (aI v1), some (aI v2), some (aI v3), some (aI (v2 ||| (r3 &&& v1)))]) (stk' := [aI v2, aI (v2 ||| (r3 &&& v1))]) (σ' := σ2) (g := []) (by decide +kernel) rfl rfl ?_
      refine aw_icmp_ne (off := 6) (tgt := 33) (by decide +kernel) (by decide) (fun c1 => ?_) (fun c1 => ?_)
      · rw [if_neg c1] at h
        refine aw_seq [(.iload 4, 2, ax0), (.istore_n 2, 1, ax0), (.iinc 3 1, 3, (axI 1))] (pc' := 39) (L' := [some (aR 5 0 s), some (aI v1), some (aI (v2 ||| (r3 &&& v1))), some (aI (v3 + 1)), some (aI (v2 ||| (r3 &&& v1)))]) (stk' := []) (σ' := σ2) (g := []) (by decide +kernel) rfl rfl ?_
        refine aw_goto (off := (-32)) (tgt := 7) (by decide +kernel) (by decide) ?_
        refine aw_forget (L' := [some (aR 5 0 s), some (aI v1), some (aI (v2 ||| (r3 &&& v1))), some (aI (v3 + 1)), none]) (lsub_s (lsub_s (lsub_s (lsub_s (lsub_n (lsub_0)))))) ?_
        exact ih v1 (v2 ||| (r3 &&& v1)) (v3 + 1) σ2 _ h
      · rw [if_pos c1] at h
        refine aw_goto (off := 12) (tgt := 42) (by decide +kernel) (by decide) ?_
        refine aw_forget (L' := [none, none, some (aI v2), none, none]) (lsub_n (lsub_n (lsub_s (lsub_n (lsub_n (lsub_0)))))) ?_
        exact ok_X5_group_42 v2 σ2 _ h
def f_X5_group (s : Nat) (v1 : Int32) (σ : Sg) : Option (Int32 × Sg) :=
  f_X5_group_7 s FU v1 (v1 &&& (-v1)) 0 σ
set_option maxRecDepth 100000 in
set_option maxHeartbeats 4000000 in
theorem ok_X5_group {κ : Kd} {s : Nat} {v1 : Int32} {σ : Sg} {q : (Int32 × Sg)} (h : f_X5_group s v1 σ = some q) : AMet κ pX5_group 2 [aR 5 0 s, aI v1] σ (some (aI q.1), q.2) := by
  unfold f_X5_group at h
  refine amet_of okp_X5_group [(false, aR 5 0 s), (false, aI v1)] (List.forall_mem_cons.mpr ⟨rfl, List.forall_mem_cons.mpr ⟨rfl, (fun _ hn => absurd hn List.not_mem_nil)⟩⟩) 3 rfl ?_
  show AW κ pX5_group 2 (some (aI q.1), q.2) 0 [some (aR 5 0 s), some (aI v1), none, none, none] [] σ
  refine aw_seq [(.iload_n 1, 1, ax0), (.iload_n 1, 1, ax0), (.ineg, 1, ax0), (.iand, 1, ax0), (.istore_n 2, 1, ax0), (.iconst 0, 1, (axI 0)), (.istore_n 3, 1, ax0)] (pc' := 7) (L' := [some (aR 5 0 s), some (aI v1), some (aI (v1 &&& (-v1))), some (aI 0), none]) (stk' := []) (σ' := σ) (g := []) (by decide +kernel) rfl rfl ?_
  refine aw_forget (L' := [some (aR 5 0 s), some (aI v1), some (aI (v1 &&& (-v1))), some (aI 0), none]) (lsub_s (lsub_s (lsub_s (lsub_s (lsub_n (lsub_0)))))) ?_
  exact ok_X5_group_7 FU v1 (v1 &&& (-v1)) 0 σ _ h
def f_X5_groups_37 (s : Nat)  (v2 : Int32) (σ : Sg) : Option (Int32 × Sg) :=
  some (v2, σ)
set_option maxRecDepth 100000 in
set_option maxHeartbeats 4000000 in
theorem ok_X5_groups_37 {κ : Kd} {s : Nat}   : ∀ (v2 : Int32) (σ : Sg) (q : (Int32 × Sg)), f_X5_groups_37 s v2 σ = some q → AW κ pX5_groups 3 (some (aI q.1), q.2) 37 [none, none, some (aI v2), none, none] [] σ := by
  intro v2 σ q h
  unfold f_X5_groups_37 at h
  refine aw_seq [(.iload_n 2, 1, ax0)] (pc' := 38) (L' := [none, none, some (aI v2), none, none]) (stk' := [aI v2]) (σ' := σ) (g := []) (by decide +kernel) rfl rfl ?_
  cases h
  exact aw_iret rfl (by decide +kernel)
def f_X5_groups_7 (s : Nat)  : Nat → Int32 → Int32 → Int32 → Sg → Option (Int32 × Sg)
  | 0, _, _, _, _ => none
  | fu + 1, v2, v3, v4, σ =>
    if 8 ≤ v4 then (
      f_X5_groups_37 s v2 σ
    ) else (
      if v3 = 0 then (
        f_X5_groups_37 s v2 σ
      ) else (
        bnd (f_X5_group s v3 σ) fun r3 σ2 =>
        (f_X5_groups_7 s fu) (v2 + 1) (v3 &&& (r3 ^^^ (-1))) (v4 + 1) σ2
      )
    )
set_option maxRecDepth 100000 in
set_option maxHeartbeats 4000000 in
theorem ok_X5_groups_7 {κ : Kd} {s : Nat}   : ∀ (fu : Nat) (v2 : Int32) (v3 : Int32) (v4 : Int32) (σ : Sg) (q : (Int32 × Sg)), f_X5_groups_7 s fu v2 v3 v4 σ = some q → AW κ pX5_groups 3 (some (aI q.1), q.2) 7 [some (aR 5 0 s), none, some (aI v2), some (aI v3), some (aI v4)] [] σ := by
  intro fu
  induction fu with
  | zero =>
    intro v2 v3 v4 σ q h
    unfold f_X5_groups_7 at h
    cases h
  | succ fu ih =>
    intro v2 v3 v4 σ q h
    unfold f_X5_groups_7 at h
    refine aw_seq [(.iload 4, 2, ax0), (.bipush 8, 2, (axI 8))] (pc' := 11) (L' := [some (aR 5 0 s), none, some (aI v2), some (aI v3), some (aI v4)]) (stk' := [aI 8, aI v4]) (σ' := σ) (g := []) (by decide +kernel) rfl rfl ?_
    refine aw_icmp_ge (off := 26) (tgt := 37) (by decide +kernel) (by decide) (fun c1 => ?_) (fun c1 => ?_)
    · rw [if_pos c1] at h
      refine aw_forget (L' := [none, none, some (aI v2), none, none]) (lsub_n (lsub_n (lsub_s (lsub_n (lsub_n (lsub_0)))))) ?_
      exact ok_X5_groups_37 v2 σ _ h
    · rw [if_neg c1] at h
      refine aw_seq [(.iload_n 3, 1, ax0)] (pc' := 15) (L' := [some (aR 5 0 s), none, some (aI v2), some (aI v3), some (aI v4)]) (stk' := [aI v3]) (σ' := σ) (g := []) (by decide +kernel) rfl rfl ?_
      refine aw_if_eq (off := 22) (tgt := 37) (by decide +kernel) (by decide) (fun c1 => ?_) (fun c1 => ?_)
      · rw [if_pos c1] at h
        refine aw_forget (L' := [none, none, some (aI v2), none, none]) (lsub_n (lsub_n (lsub_s (lsub_n (lsub_n (lsub_0)))))) ?_
        exact ok_X5_groups_37 v2 σ _ h
      · rw [if_neg c1] at h
        refine aw_seq [(.iload_n 3, 1, ax0), (.aload_n 0, 1, ax0), (.iload_n 3, 1, ax0)] (pc' := 21) (L' := [some (aR 5 0 s), none, some (aI v2), some (aI v3), some (aI v4)]) (stk' := [aI v3, aR 5 0 s, aI v3]) (σ' := σ) (g := []) (by decide +kernel) rfl rfl ?_
        obtain ⟨r3, σ2, h1, h⟩ := bnd_some h
        refine aw_cV (P' := pX5_group) (idx := 33) (d' := 2) (c := 5) (n := 0) (k := s) [aI v3] [aI v3] (ov := (some (aI r3))) (stk2 := [aI r3, aI v3]) okp_X5_group (by decide +kernel) ml_RX5_33 vok_X5_group (by decide) rfl nar_X5_group (by decide) rfl (Nat.le_of_ble_eq_true rfl) (ok_X5_group h1) rfl ?_
        refine aw_seq [(.iconst (-1), 1, (axI (-1))), (.ixor, 1, ax0), (.iand, 1, ax0), (.istore_n 3, 1, ax0), (.iinc 2 1, 3, (axI 1)), (.iinc 4 1, 3, (axI 1))] (pc' := 34) (L' := [some (aR 5 0 s), none, some (aI (v2 + 1)), some (aI (v3 &&& (r3 ^^^ (-1)))), some (aI (v4 + 1))]) (stk' := []) (σ' := σ2) (g := []) (by decide +kernel) rfl rfl ?_
        refine aw_goto (off := (-27)) (tgt := 7) (by decide +kernel) (by decide) ?_
        refine aw_forget (L' := [some (aR 5 0 s), none, some (aI (v2 + 1)), some (aI (v3 &&& (r3 ^^^ (-1)))), some (aI (v4 + 1))]) (lsub_s (lsub_n (lsub_s (lsub_s (lsub_s (lsub_0)))))) ?_
        exact ih (v2 + 1) (v3 &&& (r3 ^^^ (-1))) (v4 + 1) σ2 _ h
def f_X5_groups (s : Nat) (v1 : Int32) (σ : Sg) : Option (Int32 × Sg) :=
  f_X5_groups_7 s FU 0 v1 0 σ
set_option maxRecDepth 100000 in
set_option maxHeartbeats 4000000 in
theorem ok_X5_groups {κ : Kd} {s : Nat} {v1 : Int32} {σ : Sg} {q : (Int32 × Sg)} (h : f_X5_groups s v1 σ = some q) : AMet κ pX5_groups 3 [aR 5 0 s, aI v1] σ (some (aI q.1), q.2) := by
  unfold f_X5_groups at h
  refine amet_of okp_X5_groups [(false, aR 5 0 s), (false, aI v1)] (List.forall_mem_cons.mpr ⟨rfl, List.forall_mem_cons.mpr ⟨rfl, (fun _ hn => absurd hn List.not_mem_nil)⟩⟩) 3 rfl ?_
  show AW κ pX5_groups 3 (some (aI q.1), q.2) 0 [some (aR 5 0 s), some (aI v1), none, none, none] [] σ
  refine aw_seq [(.iconst 0, 1, (axI 0)), (.istore_n 2, 1, ax0), (.iload_n 1, 1, ax0), (.istore_n 3, 1, ax0), (.iconst 0, 1, (axI 0)), (.istore 4, 2, ax0)] (pc' := 7) (L' := [some (aR 5 0 s), some (aI v1), some (aI 0), some (aI v1), some (aI 0)]) (stk' := []) (σ' := σ) (g := []) (by decide +kernel) rfl rfl ?_
  refine aw_forget (L' := [some (aR 5 0 s), none, some (aI 0), some (aI v1), some (aI 0)]) (lsub_s (lsub_n (lsub_s (lsub_s (lsub_s (lsub_0)))))) ?_
  exact ok_X5_groups_7 FU 0 v1 0 σ _ h
def f_X5_hangTogether_25 (s : Nat) (rec_4 : Int32 → Int32 → Sg → Option (Int32 × Sg)) (v1 : Int32) (v2 : Int32) (σ : Sg) : Option (Int32 × Sg) :=
  rec_4 v1 (v2 + 1) σ
set_option maxRecDepth 100000 in
set_option maxHeartbeats 4000000 in
theorem ok_X5_hangTogether_25 {κ : Kd} {s : Nat}  {rec_4 : Int32 → Int32 → Sg → Option (Int32 × Sg)} (hrec_4 : ∀ (v1 : Int32) (v2 : Int32) (σ : Sg) (q : (Int32 × Sg)), rec_4 v1 v2 σ = some q → AW κ pX5_hangTogether 4 (some (aI q.1), q.2) 4 [some (aR 5 0 s), some (aI v1), some (aI v2)] [] σ) : ∀ (v1 : Int32) (v2 : Int32) (σ : Sg) (q : (Int32 × Sg)), f_X5_hangTogether_25 s rec_4 v1 v2 σ = some q → AW κ pX5_hangTogether 4 (some (aI q.1), q.2) 25 [some (aR 5 0 s), some (aI v1), some (aI v2)] [] σ := by
  intro v1 v2 σ q h
  unfold f_X5_hangTogether_25 at h
  refine aw_seq [(.iinc 2 1, 3, (axI 1))] (pc' := 28) (L' := [some (aR 5 0 s), some (aI v1), some (aI (v2 + 1))]) (stk' := []) (σ' := σ) (g := []) (by decide +kernel) rfl rfl ?_
  refine aw_goto (off := (-24)) (tgt := 4) (by decide +kernel) (by decide) ?_
  refine aw_forget (L' := [some (aR 5 0 s), some (aI v1), some (aI (v2 + 1))]) (lsub_s (lsub_s (lsub_s (lsub_0)))) ?_
  exact hrec_4 v1 (v2 + 1) σ _ h
def f_X5_hangTogether_45 (s : Nat)  (s0 : Int32) (σ : Sg) : Option (Int32 × Sg) :=
  grd (bz s0) <| some (s0, σ)
set_option maxRecDepth 100000 in
set_option maxHeartbeats 4000000 in
theorem ok_X5_hangTogether_45 {κ : Kd} {s : Nat}   : ∀ (s0 : Int32) (σ : Sg) (q : (Int32 × Sg)), f_X5_hangTogether_45 s s0 σ = some q → AW κ pX5_hangTogether 4 (some (aI q.1), q.2) 45 [none, none, none] [aI s0] σ := by
  intro s0 σ q h
  unfold f_X5_hangTogether_45 at h
  obtain ⟨hg, h⟩ := grd_some h
  cases h
  exact aw_zret rfl hg (by decide +kernel)
def f_X5_hangTogether_4 (s : Nat)  : Nat → Int32 → Int32 → Sg → Option (Int32 × Sg)
  | 0, _, _, _ => none
  | fu + 1, v1, v2, σ =>
    if 8 ≤ v2 then (
      bnd (f_X5_groups s v1 σ) fun r3 σ2 =>
      if 1 < r3 then (
        f_X5_hangTogether_45 s 0 σ2
      ) else (
        f_X5_hangTogether_45 s 1 σ2
      )
    ) else (
      grd (inb v2 8 && true) <|
      if (σ.1 (s + 2) (ix v2)) = 0 then (
        f_X5_hangTogether_25 s (f_X5_hangTogether_4 s fu) v1 v2 σ
      ) else (
        f_X5_hangTogether_25 s (f_X5_hangTogether_4 s fu) (v1 ||| (shl 1 v2)) v2 σ
      )
    )
set_option maxRecDepth 100000 in
set_option maxHeartbeats 4000000 in
theorem ok_X5_hangTogether_4 {κ : Kd} {s : Nat}   : ∀ (fu : Nat) (v1 : Int32) (v2 : Int32) (σ : Sg) (q : (Int32 × Sg)), f_X5_hangTogether_4 s fu v1 v2 σ = some q → AW κ pX5_hangTogether 4 (some (aI q.1), q.2) 4 [some (aR 5 0 s), some (aI v1), some (aI v2)] [] σ := by
  intro fu
  induction fu with
  | zero =>
    intro v1 v2 σ q h
    unfold f_X5_hangTogether_4 at h
    cases h
  | succ fu ih =>
    intro v1 v2 σ q h
    unfold f_X5_hangTogether_4 at h
    refine aw_seq [(.iload_n 2, 1, ax0), (.bipush 8, 2, (axI 8))] (pc' := 7) (L' := [some (aR 5 0 s), some (aI v1), some (aI v2)]) (stk' := [aI 8, aI v2]) (σ' := σ) (g := []) (by decide +kernel) rfl rfl ?_
    refine aw_icmp_ge (off := 24) (tgt := 31) (by decide +kernel) (by decide) (fun c1 => ?_) (fun c1 => ?_)
    · rw [if_pos c1] at h
      refine aw_seq [(.aload_n 0, 1, ax0), (.iload_n 1, 1, ax0)] (pc' := 33) (L' := [some (aR 5 0 s), some (aI v1), some (aI v2)]) (stk' := [aI v1, aR 5 0 s]) (σ' := σ) (g := []) (by decide +kernel) rfl rfl ?_
      obtain ⟨r3, σ2, h1, h⟩ := bnd_some h
      refine aw_cV (P' := pX5_groups) (idx := 42) (d' := 3) (c := 5) (n := 0) (k := s) [aI v1] [] (ov := (some (aI r3))) (stk2 := [aI r3]) okp_X5_groups (by decide +kernel) ml_RX5_42 vok_X5_groups (by decide) rfl nar_X5_groups (by decide) rfl (Nat.le_of_ble_eq_true rfl) (ok_X5_groups h1) rfl ?_
      refine aw_seq [(.iconst 1, 1, (axI 1))] (pc' := 37) (L' := [some (aR 5 0 s), some (aI v1), some (aI v2)]) (stk' := [aI 1, aI r3]) (σ' := σ2) (g := []) (by decide +kernel) rfl rfl ?_
      refine aw_icmp_gt (off := 7) (tgt := 44) (by decide +kernel) (by decide) (fun c1 => ?_) (fun c1 => ?_)
      · rw [if_pos c1] at h
        refine aw_seq [(.iconst 0, 1, (axI 0))] (pc' := 45) (L' := [some (aR 5 0 s), some (aI v1), some (aI v2)]) (stk' := [aI 0]) (σ' := σ2) (g := []) (by decide +kernel) rfl rfl ?_
        refine aw_forget (L' := [none, none, none]) (lsub_n (lsub_n (lsub_n (lsub_0)))) ?_
        exact ok_X5_hangTogether_45 0 σ2 _ h
      · rw [if_neg c1] at h
        refine aw_seq [(.iconst 1, 1, (axI 1))] (pc' := 41) (L' := [some (aR 5 0 s), some (aI v1), some (aI v2)]) (stk' := [aI 1]) (σ' := σ2) (g := []) (by decide +kernel) rfl rfl ?_
        refine aw_goto (off := 4) (tgt := 45) (by decide +kernel) (by decide) ?_
        refine aw_forget (L' := [none, none, none]) (lsub_n (lsub_n (lsub_n (lsub_0)))) ?_
        exact ok_X5_hangTogether_45 1 σ2 _ h
    · rw [if_neg c1] at h
      obtain ⟨hg, h⟩ := grd_some h
      refine aw_seq [(.aload_n 0, 1, ax0), (.getfield 15, 3, (axF 5 1 (2, 2, 13, some 8))), (.iload_n 2, 1, ax0), (.iaload, 1, ax0)] (pc' := 16) (L' := [some (aR 5 0 s), some (aI v1), some (aI v2)]) (stk' := [aI (σ.1 (s + 2) (ix v2))]) (σ' := σ) (g := [inb v2 8]) (by decide +kernel) rfl hg ?_
      refine aw_if_eq (off := 9) (tgt := 25) (by decide +kernel) (by decide) (fun c1 => ?_) (fun c1 => ?_)
      · rw [if_pos c1] at h
        refine aw_forget (L' := [some (aR 5 0 s), some (aI v1), some (aI v2)]) (lsub_s (lsub_s (lsub_s (lsub_0)))) ?_
        exact ok_X5_hangTogether_25 ih v1 v2 σ _ h
      · rw [if_neg c1] at h
        refine aw_seq [(.iload_n 1, 1, ax0), (.iconst 1, 1, (axI 1)), (.iload_n 2, 1, ax0), (.ishl, 1, ax0), (.ior, 1, ax0), (.istore_n 1, 1, ax0)] (pc' := 25) (L' := [some (aR 5 0 s), some (aI (v1 ||| (shl 1 v2))), some (aI v2)]) (stk' := []) (σ' := σ) (g := []) (by decide +kernel) rfl rfl ?_
        refine aw_forget (L' := [some (aR 5 0 s), some (aI (v1 ||| (shl 1 v2))), some (aI v2)]) (lsub_s (lsub_s (lsub_s (lsub_0)))) ?_
        exact ok_X5_hangTogether_25 ih (v1 ||| (shl 1 v2)) v2 σ _ h
def f_X5_hangTogether (s : Nat) (σ : Sg) : Option (Int32 × Sg) :=
  f_X5_hangTogether_4 s FU 0 0 σ
set_option maxRecDepth 100000 in
set_option maxHeartbeats 4000000 in
theorem ok_X5_hangTogether {κ : Kd} {s : Nat} {σ : Sg} {q : (Int32 × Sg)} (h : f_X5_hangTogether s σ = some q) : AMet κ pX5_hangTogether 4 [aR 5 0 s] σ (some (aI q.1), q.2) := by
  unfold f_X5_hangTogether at h
  refine amet_of okp_X5_hangTogether [(false, aR 5 0 s)] (List.forall_mem_cons.mpr ⟨rfl, (fun _ hn => absurd hn List.not_mem_nil)⟩) 2 rfl ?_
  show AW κ pX5_hangTogether 4 (some (aI q.1), q.2) 0 [some (aR 5 0 s), none, none] [] σ
  refine aw_seq [(.iconst 0, 1, (axI 0)), (.istore_n 1, 1, ax0), (.iconst 0, 1, (axI 0)), (.istore_n 2, 1, ax0)] (pc' := 4) (L' := [some (aR 5 0 s), some (aI 0), some (aI 0)]) (stk' := []) (σ' := σ) (g := []) (by decide +kernel) rfl rfl ?_
  refine aw_forget (L' := [some (aR 5 0 s), some (aI 0), some (aI 0)]) (lsub_s (lsub_s (lsub_s (lsub_0)))) ?_
  exact ok_X5_hangTogether_4 FU 0 0 σ _ h
def f_X5_together_4 (s : Nat)  : Nat → Int32 → Int32 → Sg → Option (Int32 × Sg)
  | 0, _, _, _ => none
  | fu + 1, v1, v2, σ =>
    if 64 ≤ v2 then (
      grd ((!decide ((2 : Int32) = 0)) && true) <|
      some ((v1 / 2), σ)
    ) else (
      grd (inb v2 64 && true) <|
      (f_X5_together_4 s fu) (v1 + (σ.1 (s + 1) (ix v2))) (v2 + 1) σ
    )
set_option maxRecDepth 100000 in
set_option maxHeartbeats 4000000 in
theorem ok_X5_together_4 {κ : Kd} {s : Nat}   : ∀ (fu : Nat) (v1 : Int32) (v2 : Int32) (σ : Sg) (q : (Int32 × Sg)), f_X5_together_4 s fu v1 v2 σ = some q → AW κ pX5_together 1 (some (aI q.1), q.2) 4 [some (aR 5 0 s), some (aI v1), some (aI v2)] [] σ := by
  intro fu
  induction fu with
  | zero =>
    intro v1 v2 σ q h
    unfold f_X5_together_4 at h
    cases h
  | succ fu ih =>
    intro v1 v2 σ q h
    unfold f_X5_together_4 at h
    refine aw_seq [(.iload_n 2, 1, ax0), (.aload_n 0, 1, ax0), (.getfield 9, 3, (axF 5 0 (2, 1, 13, some 64))), (.arraylength, 1, ax0)] (pc' := 10) (L' := [some (aR 5 0 s), some (aI v1), some (aI v2)]) (stk' := [aI 64, aI v2]) (σ' := σ) (g := []) (by decide +kernel) rfl rfl ?_
    refine aw_icmp_ge (off := 18) (tgt := 28) (by decide +kernel) (by decide) (fun c1 => ?_) (fun c1 => ?_)
    · rw [if_pos c1] at h
      obtain ⟨hg, h⟩ := grd_some h
      refine aw_seq [(.iload_n 1, 1, ax0), (.iconst 2, 1, (axI 2)), (.idiv, 1, ax0)] (pc' := 31) (L' := [some (aR 5 0 s), some (aI v1), some (aI v2)]) (stk' := [aI (v1 / 2)]) (σ' := σ) (g := [(!decide ((2 : Int32) = 0))]) (by decide +kernel) rfl hg ?_
      cases h
      exact aw_iret rfl (by decide +kernel)
    · rw [if_neg c1] at h
      obtain ⟨hg, h⟩ := grd_some h
      refine aw_seq [(.iload_n 1, 1, ax0), (.aload_n 0, 1, ax0), (.getfield 9, 3, (axF 5 0 (2, 1, 13, some 64))), (.iload_n 2, 1, ax0), (.iaload, 1, ax0), (.iadd, 1, ax0), (.istore_n 1, 1, ax0), (.iinc 2 1, 3, (axI 1))] (pc' := 25) (L' := [some (aR 5 0 s), some (aI (v1 + (σ.1 (s + 1) (ix v2)))), some (aI (v2 + 1))]) (stk' := []) (σ' := σ) (g := [inb v2 64]) (by decide +kernel) rfl hg ?_
      refine aw_goto (off := (-21)) (tgt := 4) (by decide +kernel) (by decide) ?_
      refine aw_forget (L' := [some (aR 5 0 s), some (aI (v1 + (σ.1 (s + 1) (ix v2)))), some (aI (v2 + 1))]) (lsub_s (lsub_s (lsub_s (lsub_0)))) ?_
      exact ih (v1 + (σ.1 (s + 1) (ix v2))) (v2 + 1) σ _ h
def f_X5_together (s : Nat) (σ : Sg) : Option (Int32 × Sg) :=
  f_X5_together_4 s FU 0 0 σ
set_option maxRecDepth 100000 in
set_option maxHeartbeats 4000000 in
theorem ok_X5_together {κ : Kd} {s : Nat} {σ : Sg} {q : (Int32 × Sg)} (h : f_X5_together s σ = some q) : AMet κ pX5_together 1 [aR 5 0 s] σ (some (aI q.1), q.2) := by
  unfold f_X5_together at h
  refine amet_of okp_X5_together [(false, aR 5 0 s)] (List.forall_mem_cons.mpr ⟨rfl, (fun _ hn => absurd hn List.not_mem_nil)⟩) 2 rfl ?_
  show AW κ pX5_together 1 (some (aI q.1), q.2) 0 [some (aR 5 0 s), none, none] [] σ
  refine aw_seq [(.iconst 0, 1, (axI 0)), (.istore_n 1, 1, ax0), (.iconst 0, 1, (axI 0)), (.istore_n 2, 1, ax0)] (pc' := 4) (L' := [some (aR 5 0 s), some (aI 0), some (aI 0)]) (stk' := []) (σ' := σ) (g := []) (by decide +kernel) rfl rfl ?_
  refine aw_forget (L' := [some (aR 5 0 s), some (aI 0), some (aI 0)]) (lsub_s (lsub_s (lsub_s (lsub_0)))) ?_
  exact ok_X5_together_4 FU 0 0 σ _ h
def f_X9_lowestOf_22   (v1 : Int32) (σ : Sg) : Option (Int32 × Sg) :=
  some (v1, σ)
set_option maxRecDepth 100000 in
set_option maxHeartbeats 4000000 in
theorem ok_X9_lowestOf_22 {κ : Kd}    : ∀ (v1 : Int32) (σ : Sg) (q : (Int32 × Sg)), f_X9_lowestOf_22 v1 σ = some q → AW κ pX9_lowestOf 1 (some (aI q.1), q.2) 22 [none, some (aI v1)] [] σ := by
  intro v1 σ q h
  unfold f_X9_lowestOf_22 at h
  refine aw_seq [(.iload_n 1, 1, ax0)] (pc' := 23) (L' := [none, some (aI v1)]) (stk' := [aI v1]) (σ' := σ) (g := []) (by decide +kernel) rfl rfl ?_
  cases h
  exact aw_iret rfl (by decide +kernel)
def f_X9_lowestOf_2   : Nat → Int32 → Int32 → Sg → Option (Int32 × Sg)
  | 0, _, _, _ => none
  | fu + 1, v0, v1, σ =>
    if 8 ≤ v1 then (
      f_X9_lowestOf_22 v1 σ
    ) else (
      if ((shr v0 v1) &&& 1) = 0 then (
        (f_X9_lowestOf_2 fu) v0 (v1 + 1) σ
      ) else (
        f_X9_lowestOf_22 v1 σ
      )
    )
set_option maxRecDepth 100000 in
set_option maxHeartbeats 4000000 in
theorem ok_X9_lowestOf_2 {κ : Kd}    : ∀ (fu : Nat) (v0 : Int32) (v1 : Int32) (σ : Sg) (q : (Int32 × Sg)), f_X9_lowestOf_2 fu v0 v1 σ = some q → AW κ pX9_lowestOf 1 (some (aI q.1), q.2) 2 [some (aI v0), some (aI v1)] [] σ := by
  intro fu
  induction fu with
  | zero =>
    intro v0 v1 σ q h
    unfold f_X9_lowestOf_2 at h
    cases h
  | succ fu ih =>
    intro v0 v1 σ q h
    unfold f_X9_lowestOf_2 at h
    refine aw_seq [(.iload_n 1, 1, ax0), (.bipush 8, 2, (axI 8))] (pc' := 5) (L' := [some (aI v0), some (aI v1)]) (stk' := [aI 8, aI v1]) (σ' := σ) (g := []) (by decide +kernel) rfl rfl ?_
    refine aw_icmp_ge (off := 17) (tgt := 22) (by decide +kernel) (by decide) (fun c1 => ?_) (fun c1 => ?_)
    · rw [if_pos c1] at h
      refine aw_forget (L' := [none, some (aI v1)]) (lsub_n (lsub_s (lsub_0))) ?_
      exact ok_X9_lowestOf_22 v1 σ _ h
    · rw [if_neg c1] at h
      refine aw_seq [(.iload_n 0, 1, ax0), (.iload_n 1, 1, ax0), (.ishr, 1, ax0), (.iconst 1, 1, (axI 1)), (.iand, 1, ax0)] (pc' := 13) (L' := [some (aI v0), some (aI v1)]) (stk' := [aI ((shr v0 v1) &&& 1)]) (σ' := σ) (g := []) (by decide +kernel) rfl rfl ?_
      refine aw_if_ne (off := 9) (tgt := 22) (by decide +kernel) (by decide) (fun c1 => ?_) (fun c1 => ?_)
      · rw [if_neg c1] at h
        refine aw_forget (L' := [none, some (aI v1)]) (lsub_n (lsub_s (lsub_0))) ?_
        exact ok_X9_lowestOf_22 v1 σ _ h
      · rw [if_pos c1] at h
        refine aw_seq [(.iinc 1 1, 3, (axI 1))] (pc' := 19) (L' := [some (aI v0), some (aI (v1 + 1))]) (stk' := []) (σ' := σ) (g := []) (by decide +kernel) rfl rfl ?_
        refine aw_goto (off := (-17)) (tgt := 2) (by decide +kernel) (by decide) ?_
        refine aw_forget (L' := [some (aI v0), some (aI (v1 + 1))]) (lsub_s (lsub_s (lsub_0))) ?_
        exact ih v0 (v1 + 1) σ _ h
def f_X9_lowestOf (v0 : Int32) (σ : Sg) : Option (Int32 × Sg) :=
  f_X9_lowestOf_2 FU v0 0 σ
set_option maxRecDepth 100000 in
set_option maxHeartbeats 4000000 in
theorem ok_X9_lowestOf {κ : Kd} {v0 : Int32} {σ : Sg} {q : (Int32 × Sg)} (h : f_X9_lowestOf v0 σ = some q) : AMet κ pX9_lowestOf 1 [aI v0] σ (some (aI q.1), q.2) := by
  unfold f_X9_lowestOf at h
  refine amet_of okp_X9_lowestOf [(false, aI v0)] (List.forall_mem_cons.mpr ⟨rfl, (fun _ hn => absurd hn List.not_mem_nil)⟩) 1 rfl ?_
  show AW κ pX9_lowestOf 1 (some (aI q.1), q.2) 0 [some (aI v0), none] [] σ
  refine aw_seq [(.iconst 0, 1, (axI 0)), (.istore_n 1, 1, ax0)] (pc' := 2) (L' := [some (aI v0), some (aI 0)]) (stk' := []) (σ' := σ) (g := []) (by decide +kernel) rfl rfl ?_
  refine aw_forget (L' := [some (aI v0), some (aI 0)]) (lsub_s (lsub_s (lsub_0))) ?_
  exact ok_X9_lowestOf_2 FU v0 0 σ _ h
def f_X9_with_17    (σ : Sg) : Option (Int32 × Sg) :=
  some (1000000, σ)
set_option maxRecDepth 100000 in
set_option maxHeartbeats 4000000 in
theorem ok_X9_with_17 {κ : Kd}    : ∀  (σ : Sg) (q : (Int32 × Sg)), f_X9_with_17  σ = some q → AW κ pX9_with 2 (some (aI q.1), q.2) 17 [none, none, none, none] [] σ := by
  intro  σ q h
  unfold f_X9_with_17 at h
  refine aw_seq [(.ldc 21, 2, (axI 1000000))] (pc' := 19) (L' := [none, none, none, none]) (stk' := [aI 1000000]) (σ' := σ) (g := []) (by decide +kernel) rfl rfl ?_
  cases h
  exact aw_iret rfl (by decide +kernel)
def f_X9_with (v1 : Int32) (v2 : Int32) (σ : Sg) : Option (Int32 × Sg) :=
  bnd (f_X9_lowestOf v1 σ) fun r3 σ2 =>
  if 8 ≤ r3 then (
    f_X9_with_17 σ2
  ) else (
    if v2 < 8 then (
      bnd (f_X9_between r3 v2 σ2) fun r6 σ5 =>
      grd (inb (v1 &&& (((shl 1 r3) ||| (shl 1 v2)) ^^^ (-1))) 256 && true) <|
      some ((r6 + (σ5.1 61 (ix (v1 &&& (((shl 1 r3) ||| (shl 1 v2)) ^^^ (-1)))))), σ5)
    ) else (
      f_X9_with_17 σ2
    )
  )
set_option maxRecDepth 100000 in
set_option maxHeartbeats 4000000 in
theorem ok_X9_with {κ : Kd} {v1 : Int32} {v2 : Int32} {σ : Sg} {q : (Int32 × Sg)} (h : f_X9_with v1 v2 σ = some q) : AMet κ pX9_with 2 [aR 9 0 59, aI v1, aI v2] σ (some (aI q.1), q.2) := by
  unfold f_X9_with at h
  refine amet_of okp_X9_with [(false, aR 9 0 59), (false, aI v1), (false, aI v2)] (List.forall_mem_cons.mpr ⟨rfl, List.forall_mem_cons.mpr ⟨rfl, List.forall_mem_cons.mpr ⟨rfl, (fun _ hn => absurd hn List.not_mem_nil)⟩⟩⟩) 1 rfl ?_
  show AW κ pX9_with 2 (some (aI q.1), q.2) 0 [some (aR 9 0 59), some (aI v1), some (aI v2), none] [] σ
  refine aw_seq [(.iload_n 1, 1, ax0)] (pc' := 1) (L' := [some (aR 9 0 59), some (aI v1), some (aI v2), none]) (stk' := [aI v1]) (σ' := σ) (g := []) (by decide +kernel) rfl rfl ?_
  obtain ⟨r3, σ2, h1, h⟩ := bnd_some h
  refine aw_cS (P' := pX9_lowestOf) (idx := 47) (d' := 1) [aI v1] [] (ov := (some (aI r3))) (stk2 := [aI r3]) okp_X9_lowestOf (by decide +kernel) ml_RX9_47 tok_X9_lowestOf nar_X9_lowestOf (by decide) rfl (Nat.le_of_ble_eq_true rfl) (ok_X9_lowestOf h1) rfl ?_
  refine aw_seq [(.istore_n 3, 1, ax0), (.iload_n 3, 1, ax0), (.bipush 8, 2, (axI 8))] (pc' := 8) (L' := [some (aR 9 0 59), some (aI v1), some (aI v2), some (aI r3)]) (stk' := [aI 8, aI r3]) (σ' := σ2) (g := []) (by decide +kernel) rfl rfl ?_
  refine aw_icmp_ge (off := 9) (tgt := 17) (by decide +kernel) (by decide) (fun c1 => ?_) (fun c1 => ?_)
  · rw [if_pos c1] at h
    refine aw_forget (L' := [none, none, none, none]) (lsub_n (lsub_n (lsub_n (lsub_n (lsub_0))))) ?_
    exact ok_X9_with_17 σ2 _ h
  · rw [if_neg c1] at h
    refine aw_seq [(.iload_n 2, 1, ax0), (.bipush 8, 2, (axI 8))] (pc' := 14) (L' := [some (aR 9 0 59), some (aI v1), some (aI v2), some (aI r3)]) (stk' := [aI 8, aI v2]) (σ' := σ2) (g := []) (by decide +kernel) rfl rfl ?_
    refine aw_icmp_lt (off := 6) (tgt := 20) (by decide +kernel) (by decide) (fun c1 => ?_) (fun c1 => ?_)
    · rw [if_pos c1] at h
      refine aw_seq [(.aload_n 0, 1, ax0), (.iload_n 3, 1, ax0), (.iload_n 2, 1, ax0)] (pc' := 23) (L' := [some (aR 9 0 59), some (aI v1), some (aI v2), some (aI r3)]) (stk' := [aI v2, aI r3, aR 9 0 59]) (σ' := σ2) (g := []) (by decide +kernel) rfl rfl ?_
      obtain ⟨r6, σ5, h4, h⟩ := bnd_some h
      refine aw_cV (P' := pX9_between) (idx := 66) (d' := 1) (c := 9) (n := 0) (k := 59) [aI r3, aI v2] [] (ov := (some (aI r6))) (stk2 := [aI r6]) okp_X9_between (by decide +kernel) ml_RX9_66 vok_X9_between (by decide) rfl nar_X9_between (by decide) rfl (Nat.le_of_ble_eq_true rfl) (ok_X9_between h4) rfl ?_
      obtain ⟨hg, h⟩ := grd_some h
      refine aw_seq [(.aload_n 0, 1, ax0), (.getfield 15, 3, (axF 9 1 (2, 2, 13, some 256))), (.iload_n 1, 1, ax0), (.iconst 1, 1, (axI 1)), (.iload_n 3, 1, ax0), (.ishl, 1, ax0), (.iconst 1, 1, (axI 1)), (.iload_n 2, 1, ax0), (.ishl, 1, ax0), (.ior, 1, ax0), (.iconst (-1), 1, (axI (-1))), (.ixor, 1, ax0), (.iand, 1, ax0), (.iaload, 1, ax0), (.iadd, 1, ax0)] (pc' := 43) (L' := [some (aR 9 0 59), some (aI v1), some (aI v2), some (aI r3)]) (stk' := [aI (r6 + (σ5.1 61 (ix (v1 &&& (((shl 1 r3) ||| (shl 1 v2)) ^^^ (-1))))))]) (σ' := σ5) (g := [inb (v1 &&& (((shl 1 r3) ||| (shl 1 v2)) ^^^ (-1))) 256]) (by decide +kernel) rfl hg ?_
      cases h
      exact aw_iret rfl (by decide +kernel)
    · rw [if_neg c1] at h
      refine aw_forget (L' := [none, none, none, none]) (lsub_n (lsub_n (lsub_n (lsub_n (lsub_0))))) ?_
      exact ok_X9_with_17 σ2 _ h
def f_X9_lowestPartner_65  (rec_12 : Int32 → Int32 → Int32 → Sg → Option (Int32 × Sg)) (v1 : Int32) (v3 : Int32) (v4 : Int32) (σ : Sg) : Option (Int32 × Sg) :=
  rec_12 v1 v3 (v4 + 1) σ
set_option maxRecDepth 100000 in
set_option maxHeartbeats 4000000 in
theorem ok_X9_lowestPartner_65 {κ : Kd}   {rec_12 : Int32 → Int32 → Int32 → Sg → Option (Int32 × Sg)} (hrec_12 : ∀ (v1 : Int32) (v3 : Int32) (v4 : Int32) (σ : Sg) (q : (Int32 × Sg)), rec_12 v1 v3 v4 σ = some q → AW κ pX9_lowestPartner 3 (some (aI q.1), q.2) 12 [some (aR 9 0 59), some (aI v1), none, some (aI v3), some (aI v4), none] [] σ) : ∀ (v1 : Int32) (v3 : Int32) (v4 : Int32) (σ : Sg) (q : (Int32 × Sg)), f_X9_lowestPartner_65 rec_12 v1 v3 v4 σ = some q → AW κ pX9_lowestPartner 3 (some (aI q.1), q.2) 65 [some (aR 9 0 59), some (aI v1), none, some (aI v3), some (aI v4), none] [] σ := by
  intro v1 v3 v4 σ q h
  unfold f_X9_lowestPartner_65 at h
  refine aw_seq [(.iinc 4 1, 3, (axI 1))] (pc' := 68) (L' := [some (aR 9 0 59), some (aI v1), none, some (aI v3), some (aI (v4 + 1)), none]) (stk' := []) (σ' := σ) (g := []) (by decide +kernel) rfl rfl ?_
  refine aw_goto (off := (-56)) (tgt := 12) (by decide +kernel) (by decide) ?_
  refine aw_forget (L' := [some (aR 9 0 59), some (aI v1), none, some (aI v3), some (aI (v4 + 1)), none]) (lsub_s (lsub_s (lsub_n (lsub_s (lsub_s (lsub_n (lsub_0))))))) ?_
  exact hrec_12 v1 v3 (v4 + 1) σ _ h
def f_X9_lowestPartner_62  (rec_12 : Int32 → Int32 → Int32 → Sg → Option (Int32 × Sg)) (v1 : Int32) (v4 : Int32) (σ : Sg) : Option (Int32 × Sg) :=
  f_X9_lowestPartner_65 rec_12 v1 v4 v4 σ
set_option maxRecDepth 100000 in
set_option maxHeartbeats 4000000 in
theorem ok_X9_lowestPartner_62 {κ : Kd}   {rec_12 : Int32 → Int32 → Int32 → Sg → Option (Int32 × Sg)} (hrec_12 : ∀ (v1 : Int32) (v3 : Int32) (v4 : Int32) (σ : Sg) (q : (Int32 × Sg)), rec_12 v1 v3 v4 σ = some q → AW κ pX9_lowestPartner 3 (some (aI q.1), q.2) 12 [some (aR 9 0 59), some (aI v1), none, some (aI v3), some (aI v4), none] [] σ) : ∀ (v1 : Int32) (v4 : Int32) (σ : Sg) (q : (Int32 × Sg)), f_X9_lowestPartner_62 rec_12 v1 v4 σ = some q → AW κ pX9_lowestPartner 3 (some (aI q.1), q.2) 62 [some (aR 9 0 59), some (aI v1), none, none, some (aI v4), none] [] σ := by
  intro v1 v4 σ q h
  unfold f_X9_lowestPartner_62 at h
  refine aw_seq [(.iload 4, 2, ax0), (.istore_n 3, 1, ax0)] (pc' := 65) (L' := [some (aR 9 0 59), some (aI v1), none, some (aI v4), some (aI v4), none]) (stk' := []) (σ' := σ) (g := []) (by decide +kernel) rfl rfl ?_
  refine aw_forget (L' := [some (aR 9 0 59), some (aI v1), none, some (aI v4), some (aI v4), none]) (lsub_s (lsub_s (lsub_n (lsub_s (lsub_s (lsub_n (lsub_0))))))) ?_
  exact ok_X9_lowestPartner_65 hrec_12 v1 v4 v4 σ _ h
def f_X9_lowestPartner_34  (rec_12 : Int32 → Int32 → Int32 → Sg → Option (Int32 × Sg)) (v1 : Int32) (v3 : Int32) (v4 : Int32) (s0 : Int32) (σ : Sg) : Option (Int32 × Sg) :=
  if s0 = 0 then (
    f_X9_lowestPartner_65 rec_12 v1 v3 v4 σ
  ) else (
    if v3 = (-1) then (
      f_X9_lowestPartner_62 rec_12 v1 v4 σ
    ) else (
      bnd (f_X9_with v1 v4 σ) fun r3 σ2 =>
      bnd (f_X9_with v1 v3 σ2) fun r6 σ5 =>
      if r6 ≤ r3 then (
        f_X9_lowestPartner_65 rec_12 v1 v3 v4 σ5
      ) else (
        f_X9_lowestPartner_62 rec_12 v1 v4 σ5
      )
    )
  )
set_option maxRecDepth 100000 in
set_option maxHeartbeats 4000000 in
theorem ok_X9_lowestPartner_34 {κ : Kd}   {rec_12 : Int32 → Int32 → Int32 → Sg → Option (Int32 × Sg)} (hrec_12 : ∀ (v1 : Int32) (v3 : Int32) (v4 : Int32) (σ : Sg) (q : (Int32 × Sg)), rec_12 v1 v3 v4 σ = some q → AW κ pX9_lowestPartner 3 (some (aI q.1), q.2) 12 [some (aR 9 0 59), some (aI v1), none, some (aI v3), some (aI v4), none] [] σ) : ∀ (v1 : Int32) (v3 : Int32) (v4 : Int32) (s0 : Int32) (σ : Sg) (q : (Int32 × Sg)), f_X9_lowestPartner_34 rec_12 v1 v3 v4 s0 σ = some q → AW κ pX9_lowestPartner 3 (some (aI q.1), q.2) 34 [some (aR 9 0 59), some (aI v1), none, some (aI v3), some (aI v4), none] [aI s0] σ := by
  intro v1 v3 v4 s0 σ q h
  unfold f_X9_lowestPartner_34 at h
  refine aw_seq [(.istore 5, 2, ax0), (.iload 5, 2, ax0)] (pc' := 38) (L' := [some (aR 9 0 59), some (aI v1), none, some (aI v3), some (aI v4), some (aI s0)]) (stk' := [aI s0]) (σ' := σ) (g := []) (by decide +kernel) rfl rfl ?_
  refine aw_if_eq (off := 27) (tgt := 65) (by decide +kernel) (by decide) (fun c1 => ?_) (fun c1 => ?_)
  · rw [if_pos c1] at h
    refine aw_forget (L' := [some (aR 9 0 59), some (aI v1), none, some (aI v3), some (aI v4), none]) (lsub_s (lsub_s (lsub_n (lsub_s (lsub_s (lsub_n (lsub_0))))))) ?_
    exact ok_X9_lowestPartner_65 hrec_12 v1 v3 v4 σ _ h
  · rw [if_neg c1] at h
    refine aw_seq [(.iload_n 3, 1, ax0), (.iconst (-1), 1, (axI (-1)))] (pc' := 43) (L' := [some (aR 9 0 59), some (aI v1), none, some (aI v3), some (aI v4), some (aI s0)]) (stk' := [aI (-1), aI v3]) (σ' := σ) (g := []) (by decide +kernel) rfl rfl ?_
    refine aw_icmp_eq (off := 19) (tgt := 62) (by decide +kernel) (by decide) (fun c1 => ?_) (fun c1 => ?_)
    · rw [if_pos c1] at h
      refine aw_forget (L' := [some (aR 9 0 59), some (aI v1), none, none, some (aI v4), none]) (lsub_s (lsub_s (lsub_n (lsub_n (lsub_s (lsub_n (lsub_0))))))) ?_
      exact ok_X9_lowestPartner_62 hrec_12 v1 v4 σ _ h
    · rw [if_neg c1] at h
      refine aw_seq [(.aload_n 0, 1, ax0), (.iload_n 1, 1, ax0), (.iload 4, 2, ax0)] (pc' := 50) (L' := [some (aR 9 0 59), some (aI v1), none, some (aI v3), some (aI v4), some (aI s0)]) (stk' := [aI v4, aI v1, aR 9 0 59]) (σ' := σ) (g := []) (by decide +kernel) rfl rfl ?_
      obtain ⟨r3, σ2, h1, h⟩ := bnd_some h
      refine aw_cV (P' := pX9_with) (idx := 63) (d' := 2) (c := 9) (n := 0) (k := 59) [aI v1, aI v4] [] (ov := (some (aI r3))) (stk2 := [aI r3]) okp_X9_with (by decide +kernel) ml_RX9_63 vok_X9_with (by decide) rfl nar_X9_with (by decide) rfl (Nat.le_of_ble_eq_true rfl) (ok_X9_with h1) rfl ?_
      refine aw_seq [(.aload_n 0, 1, ax0), (.iload_n 1, 1, ax0), (.iload_n 3, 1, ax0)] (pc' := 56) (L' := [some (aR 9 0 59), some (aI v1), none, some (aI v3), some (aI v4), some (aI s0)]) (stk' := [aI v3, aI v1, aR 9 0 59, aI r3]) (σ' := σ2) (g := []) (by decide +kernel) rfl rfl ?_
      obtain ⟨r6, σ5, h4, h⟩ := bnd_some h
      refine aw_cV (P' := pX9_with) (idx := 63) (d' := 2) (c := 9) (n := 0) (k := 59) [aI v1, aI v3] [aI r3] (ov := (some (aI r6))) (stk2 := [aI r6, aI r3]) okp_X9_with (by decide +kernel) ml_RX9_63 vok_X9_with (by decide) rfl nar_X9_with (by decide) rfl (Nat.le_of_ble_eq_true rfl) (ok_X9_with h4) rfl ?_
      refine aw_icmp_ge (off := 6) (tgt := 65) (by decide +kernel) (by decide) (fun c1 => ?_) (fun c1 => ?_)
      · rw [if_pos c1] at h
        refine aw_forget (L' := [some (aR 9 0 59), some (aI v1), none, some (aI v3), some (aI v4), none]) (lsub_s (lsub_s (lsub_n (lsub_s (lsub_s (lsub_n (lsub_0))))))) ?_
        exact ok_X9_lowestPartner_65 hrec_12 v1 v3 v4 σ5 _ h
      · rw [if_neg c1] at h
        refine aw_forget (L' := [some (aR 9 0 59), some (aI v1), none, none, some (aI v4), none]) (lsub_s (lsub_s (lsub_n (lsub_n (lsub_s (lsub_n (lsub_0))))))) ?_
        exact ok_X9_lowestPartner_62 hrec_12 v1 v4 σ5 _ h
def f_X9_lowestPartner_12   : Nat → Int32 → Int32 → Int32 → Sg → Option (Int32 × Sg)
  | 0, _, _, _, _ => none
  | fu + 1, v1, v3, v4, σ =>
    if 8 ≤ v4 then (
      some (v3, σ)
    ) else (
      if ((shr v1 v4) &&& 1) = 1 then (
        f_X9_lowestPartner_34 (f_X9_lowestPartner_12 fu) v1 v3 v4 1 σ
      ) else (
        f_X9_lowestPartner_34 (f_X9_lowestPartner_12 fu) v1 v3 v4 0 σ
      )
    )
set_option maxRecDepth 100000 in
set_option maxHeartbeats 4000000 in
theorem ok_X9_lowestPartner_12 {κ : Kd}    : ∀ (fu : Nat) (v1 : Int32) (v3 : Int32) (v4 : Int32) (σ : Sg) (q : (Int32 × Sg)), f_X9_lowestPartner_12 fu v1 v3 v4 σ = some q → AW κ pX9_lowestPartner 3 (some (aI q.1), q.2) 12 [some (aR 9 0 59), some (aI v1), none, some (aI v3), some (aI v4), none] [] σ := by
  intro fu
  induction fu with
  | zero =>
    intro v1 v3 v4 σ q h
    unfold f_X9_lowestPartner_12 at h
    cases h
  | succ fu ih =>
    intro v1 v3 v4 σ q h
    unfold f_X9_lowestPartner_12 at h
    refine aw_seq [(.iload 4, 2, ax0), (.bipush 8, 2, (axI 8))] (pc' := 16) (L' := [some (aR 9 0 59), some (aI v1), none, some (aI v3), some (aI v4), none]) (stk' := [aI 8, aI v4]) (σ' := σ) (g := []) (by decide +kernel) rfl rfl ?_
    refine aw_icmp_ge (off := 55) (tgt := 71) (by decide +kernel) (by decide) (fun c1 => ?_) (fun c1 => ?_)
    · rw [if_pos c1] at h
      refine aw_seq [(.iload_n 3, 1, ax0)] (pc' := 72) (L' := [some (aR 9 0 59), some (aI v1), none, some (aI v3), some (aI v4), none]) (stk' := [aI v3]) (σ' := σ) (g := []) (by decide +kernel) rfl rfl ?_
      cases h
      exact aw_iret rfl (by decide +kernel)
    · rw [if_neg c1] at h
      refine aw_seq [(.iload_n 1, 1, ax0), (.iload 4, 2, ax0), (.ishr, 1, ax0), (.iconst 1, 1, (axI 1)), (.iand, 1, ax0), (.iconst 1, 1, (axI 1))] (pc' := 26) (L' := [some (aR 9 0 59), some (aI v1), none, some (aI v3), some (aI v4), none]) (stk' := [aI 1, aI ((shr v1 v4) &&& 1)]) (σ' := σ) (g := []) (by decide +kernel) rfl rfl ?_
      refine aw_icmp_ne (off := 7) (tgt := 33) (by decide +kernel) (by decide) (fun c1 => ?_) (fun c1 => ?_)
      · rw [if_neg c1] at h
        refine aw_seq [(.iconst 0, 1, (axI 0))] (pc' := 34) (L' := [some (aR 9 0 59), some (aI v1), none, some (aI v3), some (aI v4), none]) (stk' := [aI 0]) (σ' := σ) (g := []) (by decide +kernel) rfl rfl ?_
        refine aw_forget (L' := [some (aR 9 0 59), some (aI v1), none, some (aI v3), some (aI v4), none]) (lsub_s (lsub_s (lsub_n (lsub_s (lsub_s (lsub_n (lsub_0))))))) ?_
        exact ok_X9_lowestPartner_34 ih v1 v3 v4 0 σ _ h
      · rw [if_pos c1] at h
        refine aw_seq [(.iconst 1, 1, (axI 1))] (pc' := 30) (L' := [some (aR 9 0 59), some (aI v1), none, some (aI v3), some (aI v4), none]) (stk' := [aI 1]) (σ' := σ) (g := []) (by decide +kernel) rfl rfl ?_
        refine aw_goto (off := 4) (tgt := 34) (by decide +kernel) (by decide) ?_
        refine aw_forget (L' := [some (aR 9 0 59), some (aI v1), none, some (aI v3), some (aI v4), none]) (lsub_s (lsub_s (lsub_n (lsub_s (lsub_s (lsub_n (lsub_0))))))) ?_
        exact ok_X9_lowestPartner_34 ih v1 v3 v4 1 σ _ h
def f_X9_lowestPartner (v1 : Int32) (σ : Sg) : Option (Int32 × Sg) :=
  bnd (f_X9_lowestOf v1 σ) fun r9 σ8 =>
  f_X9_lowestPartner_12 FU v1 (-1) (r9 + 1) σ8
set_option maxRecDepth 100000 in
set_option maxHeartbeats 4000000 in
theorem ok_X9_lowestPartner {κ : Kd} {v1 : Int32} {σ : Sg} {q : (Int32 × Sg)} (h : f_X9_lowestPartner v1 σ = some q) : AMet κ pX9_lowestPartner 3 [aR 9 0 59, aI v1] σ (some (aI q.1), q.2) := by
  unfold f_X9_lowestPartner at h
  refine amet_of okp_X9_lowestPartner [(false, aR 9 0 59), (false, aI v1)] (List.forall_mem_cons.mpr ⟨rfl, List.forall_mem_cons.mpr ⟨rfl, (fun _ hn => absurd hn List.not_mem_nil)⟩⟩) 4 rfl ?_
  show AW κ pX9_lowestPartner 3 (some (aI q.1), q.2) 0 [some (aR 9 0 59), some (aI v1), none, none, none, none] [] σ
  refine aw_seq [(.iload_n 1, 1, ax0)] (pc' := 1) (L' := [some (aR 9 0 59), some (aI v1), none, none, none, none]) (stk' := [aI v1]) (σ' := σ) (g := []) (by decide +kernel) rfl rfl ?_
  obtain ⟨r9, σ8, h7, h⟩ := bnd_some h
  refine aw_cS (P' := pX9_lowestOf) (idx := 47) (d' := 1) [aI v1] [] (ov := (some (aI r9))) (stk2 := [aI r9]) okp_X9_lowestOf (by decide +kernel) ml_RX9_47 tok_X9_lowestOf nar_X9_lowestOf (by decide) rfl (Nat.le_of_ble_eq_true rfl) (ok_X9_lowestOf h7) rfl ?_
  refine aw_seq [(.istore_n 2, 1, ax0), (.iconst (-1), 1, (axI (-1))), (.istore_n 3, 1, ax0), (.iload_n 2, 1, ax0), (.iconst 1, 1, (axI 1)), (.iadd, 1, ax0), (.istore 4, 2, ax0)] (pc' := 12) (L' := [some (aR 9 0 59), some (aI v1), some (aI r9), some (aI (-1)), some (aI (r9 + 1)), none]) (stk' := []) (σ' := σ8) (g := []) (by decide +kernel) rfl rfl ?_
  refine aw_forget (L' := [some (aR 9 0 59), some (aI v1), none, some (aI (-1)), some (aI (r9 + 1)), none]) (lsub_s (lsub_s (lsub_n (lsub_s (lsub_s (lsub_n (lsub_0))))))) ?_
  exact ok_X9_lowestPartner_12 FU v1 (-1) (r9 + 1) σ8 _ h
def f_X9_pairUp_68 (s : Nat) (rec_15 : Int32 → Int32 → Sg → Option Sg) (v2 : Int32) (v3 : Int32) (σ : Sg) : Option Sg :=
  rec_15 v2 (v3 + 1) σ
set_option maxRecDepth 100000 in
set_option maxHeartbeats 4000000 in
theorem ok_X9_pairUp_68 {κ : Kd} {s : Nat}  {rec_15 : Int32 → Int32 → Sg → Option Sg} (hrec_15 : ∀ (v2 : Int32) (v3 : Int32) (σ : Sg) (q : Sg), rec_15 v2 v3 σ = some q → AW κ pX9_pairUp 4 (none, q) 15 [some (aR 9 0 59), none, some (aI v2), some (aI v3), none] [] σ) : ∀ (v2 : Int32) (v3 : Int32) (σ : Sg) (q : Sg), f_X9_pairUp_68 s rec_15 v2 v3 σ = some q → AW κ pX9_pairUp 4 (none, q) 68 [some (aR 9 0 59), none, some (aI v2), some (aI v3), none] [] σ := by
  intro v2 v3 σ q h
  unfold f_X9_pairUp_68 at h
  refine aw_seq [(.iinc 3 1, 3, (axI 1))] (pc' := 71) (L' := [some (aR 9 0 59), none, some (aI v2), some (aI (v3 + 1)), none]) (stk' := []) (σ' := σ) (g := []) (by decide +kernel) rfl rfl ?_
  refine aw_goto (off := (-56)) (tgt := 15) (by decide +kernel) (by decide) ?_
  refine aw_forget (L' := [some (aR 9 0 59), none, some (aI v2), some (aI (v3 + 1)), none]) (lsub_s (lsub_n (lsub_s (lsub_s (lsub_n (lsub_0)))))) ?_
  exact hrec_15 v2 (v3 + 1) σ _ h
def f_X9_pairUp_67 (s : Nat) (rec_15 : Int32 → Int32 → Sg → Option Sg) (v2 : Int32) (v3 : Int32) (s1 : Int32) (s2 : Int32) (σ : Sg) : Option Sg :=
  grd (inb s1 256 && true) <|
  ltσ (wI σ 61 (ix s1) s2) fun σ1 =>
  f_X9_pairUp_68 s rec_15 v2 v3 σ1
set_option maxRecDepth 100000 in
set_option maxHeartbeats 4000000 in
theorem ok_X9_pairUp_67 {κ : Kd} {s : Nat}  {rec_15 : Int32 → Int32 → Sg → Option Sg} (hrec_15 : ∀ (v2 : Int32) (v3 : Int32) (σ : Sg) (q : Sg), rec_15 v2 v3 σ = some q → AW κ pX9_pairUp 4 (none, q) 15 [some (aR 9 0 59), none, some (aI v2), some (aI v3), none] [] σ) : ∀ (v2 : Int32) (v3 : Int32) (s1 : Int32) (s2 : Int32) (σ : Sg) (q : Sg), f_X9_pairUp_67 s rec_15 v2 v3 s1 s2 σ = some q → AW κ pX9_pairUp 4 (none, q) 67 [some (aR 9 0 59), none, some (aI v2), some (aI v3), none] [aI s2, aI s1, aR 13 256 61] σ := by
  intro v2 v3 s1 s2 σ q h
  unfold f_X9_pairUp_67 at h
  obtain ⟨hg, h⟩ := grd_some h
  obtain ⟨σ1, e2, h⟩ := ltσ_some h
  refine aw_seq [(.iastore, 1, ax0)] (pc' := 68) (L' := [some (aR 9 0 59), none, some (aI v2), some (aI v3), none]) (stk' := []) (σ' := σ1) (g := [inb s1 256]) (by decide +kernel) (by rw [e2]; rfl) hg ?_
  refine aw_forget (L' := [some (aR 9 0 59), none, some (aI v2), some (aI v3), none]) (lsub_s (lsub_n (lsub_s (lsub_s (lsub_n (lsub_0)))))) ?_
  exact ok_X9_pairUp_68 hrec_15 v2 v3 σ1 _ h
def f_X9_pairUp_15 (s : Nat)  : Nat → Int32 → Int32 → Sg → Option Sg
  | 0, _, _, _ => none
  | fu + 1, v2, v3, σ =>
    if v2 < v3 then (
      some σ
    ) else (
      if (v3 &&& (v2 ^^^ (-1))) = 0 then (
        bnd (f_J6_bitCount_0f7a4 v3 σ) fun r5 σ4 =>
        if (r5 &&& 1) = 0 then (
          bnd (f_X9_lowestPartner v3 σ4) fun r8 σ7 =>
          if r8 = (-1) then (
            f_X9_pairUp_67 s (f_X9_pairUp_15 s fu) v2 v3 v3 1000000 σ7
          ) else (
            bnd (f_X9_with v3 r8 σ7) fun r11 σ10 =>
            f_X9_pairUp_67 s (f_X9_pairUp_15 s fu) v2 v3 v3 r11 σ10
          )
        ) else (
          f_X9_pairUp_68 s (f_X9_pairUp_15 s fu) v2 v3 σ4
        )
      ) else (
        f_X9_pairUp_68 s (f_X9_pairUp_15 s fu) v2 v3 σ
      )
    )
set_option maxRecDepth 100000 in
set_option maxHeartbeats 4000000 in
theorem ok_X9_pairUp_15 {κ : Kd} {s : Nat}   : ∀ (fu : Nat) (v2 : Int32) (v3 : Int32) (σ : Sg) (q : Sg), f_X9_pairUp_15 s fu v2 v3 σ = some q → AW κ pX9_pairUp 4 (none, q) 15 [some (aR 9 0 59), none, some (aI v2), some (aI v3), none] [] σ := by
  intro fu
  induction fu with
  | zero =>
    intro v2 v3 σ q h
    unfold f_X9_pairUp_15 at h
    cases h
  | succ fu ih =>
    intro v2 v3 σ q h
    unfold f_X9_pairUp_15 at h
    refine aw_seq [(.iload_n 3, 1, ax0), (.iload_n 2, 1, ax0)] (pc' := 17) (L' := [some (aR 9 0 59), none, some (aI v2), some (aI v3), none]) (stk' := [aI v2, aI v3]) (σ' := σ) (g := []) (by decide +kernel) rfl rfl ?_
    refine aw_icmp_gt (off := 57) (tgt := 74) (by decide +kernel) (by decide) (fun c1 => ?_) (fun c1 => ?_)
    · rw [if_pos c1] at h
      cases h
      exact aw_vret rfl (by decide +kernel)
    · rw [if_neg c1] at h
      refine aw_seq [(.iload_n 3, 1, ax0), (.iload_n 2, 1, ax0), (.iconst (-1), 1, (axI (-1))), (.ixor, 1, ax0), (.iand, 1, ax0)] (pc' := 25) (L' := [some (aR 9 0 59), none, some (aI v2), some (aI v3), none]) (stk' := [aI (v3 &&& (v2 ^^^ (-1)))]) (σ' := σ) (g := []) (by decide +kernel) rfl rfl ?_
      refine aw_if_ne (off := 43) (tgt := 68) (by decide +kernel) (by decide) (fun c1 => ?_) (fun c1 => ?_)
      · rw [if_neg c1] at h
        refine aw_forget (L' := [some (aR 9 0 59), none, some (aI v2), some (aI v3), none]) (lsub_s (lsub_n (lsub_s (lsub_s (lsub_n (lsub_0)))))) ?_
        exact ok_X9_pairUp_68 ih v2 v3 σ _ h
      · rw [if_pos c1] at h
        refine aw_seq [(.iload_n 3, 1, ax0)] (pc' := 29) (L' := [some (aR 9 0 59), none, some (aI v2), some (aI v3), none]) (stk' := [aI v3]) (σ' := σ) (g := []) (by decide +kernel) rfl rfl ?_
        obtain ⟨r5, σ4, h3, h⟩ := bnd_some h
        refine aw_cS (P' := pJ6_bitCount_0f7a4) (idx := 58) (d' := 1) [aI v3] [] (ov := (some (aI r5))) (stk2 := [aI r5]) okp_J6_bitCount_0f7a4 (by decide +kernel) ml_RX9_58 tok_J6_bitCount_0f7a4 nar_J6_bitCount_0f7a4 (by decide) rfl (Nat.le_of_ble_eq_true rfl) (ok_J6_bitCount_0f7a4 h3) rfl ?_
        refine aw_seq [(.iconst 1, 1, (axI 1)), (.iand, 1, ax0)] (pc' := 34) (L' := [some (aR 9 0 59), none, some (aI v2), some (aI v3), none]) (stk' := [aI (r5 &&& 1)]) (σ' := σ4) (g := []) (by decide +kernel) rfl rfl ?_
        refine aw_if_ne (off := 34) (tgt := 68) (by decide +kernel) (by decide) (fun c1 => ?_) (fun c1 => ?_)
        · rw [if_neg c1] at h
          refine aw_forget (L' := [some (aR 9 0 59), none, some (aI v2), some (aI v3), none]) (lsub_s (lsub_n (lsub_s (lsub_s (lsub_n (lsub_0)))))) ?_
          exact ok_X9_pairUp_68 ih v2 v3 σ4 _ h
        · rw [if_pos c1] at h
          refine aw_seq [(.aload_n 0, 1, ax0), (.iload_n 3, 1, ax0)] (pc' := 39) (L' := [some (aR 9 0 59), none, some (aI v2), some (aI v3), none]) (stk' := [aI v3, aR 9 0 59]) (σ' := σ4) (g := []) (by decide +kernel) rfl rfl ?_
          obtain ⟨r8, σ7, h6, h⟩ := bnd_some h
          refine aw_cV (P' := pX9_lowestPartner) (idx := 51) (d' := 3) (c := 9) (n := 0) (k := 59) [aI v3] [] (ov := (some (aI r8))) (stk2 := [aI r8]) okp_X9_lowestPartner (by decide +kernel) ml_RX9_51 vok_X9_lowestPartner (by decide) rfl nar_X9_lowestPartner (by decide) rfl (Nat.le_of_ble_eq_true rfl) (ok_X9_lowestPartner h6) rfl ?_
          refine aw_seq [(.istore 4, 2, ax0), (.aload_n 0, 1, ax0), (.getfield 15, 3, (axF 9 1 (2, 2, 13, some 256))), (.iload_n 3, 1, ax0), (.iload 4, 2, ax0), (.iconst (-1), 1, (axI (-1)))] (pc' := 52) (L' := [some (aR 9 0 59), none, some (aI v2), some (aI v3), some (aI r8)]) (stk' := [aI (-1), aI r8, aI v3, aR 13 256 61]) (σ' := σ7) (g := []) (by decide +kernel) rfl rfl ?_
          refine aw_icmp_ne (off := 8) (tgt := 60) (by decide +kernel) (by decide) (fun c1 => ?_) (fun c1 => ?_)
          · rw [if_neg c1] at h
            refine aw_seq [(.aload_n 0, 1, ax0), (.iload_n 3, 1, ax0), (.iload 4, 2, ax0)] (pc' := 64) (L' := [some (aR 9 0 59), none, some (aI v2), some (aI v3), some (aI r8)]) (stk' := [aI r8, aI v3, aR 9 0 59, aI v3, aR 13 256 61]) (σ' := σ7) (g := []) (by decide +kernel) rfl rfl ?_
            obtain ⟨r11, σ10, h9, h⟩ := bnd_some h
            refine aw_cV (P' := pX9_with) (idx := 63) (d' := 2) (c := 9) (n := 0) (k := 59) [aI v3, aI r8] [aI v3, aR 13 256 61] (ov := (some (aI r11))) (stk2 := [aI r11, aI v3, aR 13 256 61]) okp_X9_with (by decide +kernel) ml_RX9_63 vok_X9_with (by decide) rfl nar_X9_with (by decide) rfl (Nat.le_of_ble_eq_true rfl) (ok_X9_with h9) rfl ?_
            refine aw_forget (L' := [some (aR 9 0 59), none, some (aI v2), some (aI v3), none]) (lsub_s (lsub_n (lsub_s (lsub_s (lsub_n (lsub_0)))))) ?_
            exact ok_X9_pairUp_67 ih v2 v3 v3 r11 σ10 _ h
          · rw [if_pos c1] at h
            refine aw_seq [(.ldc 21, 2, (axI 1000000))] (pc' := 57) (L' := [some (aR 9 0 59), none, some (aI v2), some (aI v3), some (aI r8)]) (stk' := [aI 1000000, aI v3, aR 13 256 61]) (σ' := σ7) (g := []) (by decide +kernel) rfl rfl ?_
            refine aw_goto (off := 10) (tgt := 67) (by decide +kernel) (by decide) ?_
            refine aw_forget (L' := [some (aR 9 0 59), none, some (aI v2), some (aI v3), none]) (lsub_s (lsub_n (lsub_s (lsub_s (lsub_n (lsub_0)))))) ?_
            exact ok_X9_pairUp_67 ih v2 v3 v3 1000000 σ7 _ h
def f_X9_pairUp (s : Nat) (v2 : Int32) (σ : Sg) : Option Sg :=
  bndV (f_X9_measure s 0 σ) fun σ13 =>
  grd (inb 0 256 && true) <|
  ltσ (wI σ13 61 (ix 0) 0) fun σ14 =>
  f_X9_pairUp_15 s FU v2 1 σ14
set_option maxRecDepth 100000 in
set_option maxHeartbeats 4000000 in
theorem ok_X9_pairUp {κ : Kd} {s : Nat} {v2 : Int32} {σ : Sg} {q : Sg} (h : f_X9_pairUp s v2 σ = some q) : AMet κ pX9_pairUp 4 [aR 9 0 59, aR 5 0 s, aI v2] σ (none, q) := by
  unfold f_X9_pairUp at h
  refine amet_of okp_X9_pairUp [(false, aR 9 0 59), (false, aR 5 0 s), (false, aI v2)] (List.forall_mem_cons.mpr ⟨rfl, List.forall_mem_cons.mpr ⟨rfl, List.forall_mem_cons.mpr ⟨rfl, (fun _ hn => absurd hn List.not_mem_nil)⟩⟩⟩) 2 rfl ?_
  show AW κ pX9_pairUp 4 (none, q) 0 [some (aR 9 0 59), some (aR 5 0 s), some (aI v2), none, none] [] σ
  refine aw_seq [(.aload_n 0, 1, ax0), (.aload_n 1, 1, ax0), (.iconst 0, 1, (axI 0))] (pc' := 3) (L' := [some (aR 9 0 59), some (aR 5 0 s), some (aI v2), none, none]) (stk' := [aI 0, aR 5 0 s, aR 9 0 59]) (σ' := σ) (g := []) (by decide +kernel) rfl rfl ?_
  obtain ⟨σ13, h12, h⟩ := bndV_some h
  refine aw_cV (P' := pX9_measure) (idx := 54) (d' := 3) (c := 9) (n := 0) (k := 59) [aR 5 0 s, aI 0] [] (ov := none) (stk2 := []) okp_X9_measure (by decide +kernel) ml_RX9_54 vok_X9_measure (by decide) rfl nar_X9_measure (by decide) rfl (Nat.le_of_ble_eq_true rfl) (ok_X9_measure h12) rfl ?_
  obtain ⟨hg, h⟩ := grd_some h
  obtain ⟨σ14, e15, h⟩ := ltσ_some h
  refine aw_seq [(.aload_n 0, 1, ax0), (.getfield 15, 3, (axF 9 1 (2, 2, 13, some 256))), (.iconst 0, 1, (axI 0)), (.iconst 0, 1, (axI 0)), (.iastore, 1, ax0)] (pc' := 13) (L' := [some (aR 9 0 59), some (aR 5 0 s), some (aI v2), none, none]) (stk' := []) (σ' := σ14) (g := [inb 0 256]) (by decide +kernel) (by rw [e15]; rfl) hg ?_
  refine aw_seq [(.iconst 1, 1, (axI 1)), (.istore_n 3, 1, ax0)] (pc' := 15) (L' := [some (aR 9 0 59), some (aR 5 0 s), some (aI v2), some (aI 1), none]) (stk' := []) (σ' := σ14) (g := []) (by decide +kernel) rfl rfl ?_
  refine aw_forget (L' := [some (aR 9 0 59), none, some (aI v2), some (aI 1), none]) (lsub_s (lsub_n (lsub_s (lsub_s (lsub_n (lsub_0)))))) ?_
  exact ok_X9_pairUp_15 FU v2 1 σ14 _ h
def f_X9_walk (s : Nat) (σ : Sg) : Option (Int32 × Sg) :=
  bnd (f_X5_hangTogether s σ) fun r3 σ2 =>
  if r3 = 0 then (
    some ((-1), σ2)
  ) else (
    bnd (f_X5_odd s σ2) fun r6 σ5 =>
    bndV (f_X9_pairUp s r6 σ5) fun σ8 =>
    bnd (f_X5_together s σ8) fun r11 σ10 =>
    grd (inb r6 256 && true) <|
    some ((r11 + (σ10.1 61 (ix r6))), σ10)
  )
set_option maxRecDepth 100000 in
set_option maxHeartbeats 4000000 in
theorem ok_X9_walk {κ : Kd} {s : Nat} {σ : Sg} {q : (Int32 × Sg)} (h : f_X9_walk s σ = some q) : AMet κ pX9_walk 5 [aR 9 0 59, aR 5 0 s] σ (some (aI q.1), q.2) := by
  unfold f_X9_walk at h
  refine amet_of okp_X9_walk [(false, aR 9 0 59), (false, aR 5 0 s)] (List.forall_mem_cons.mpr ⟨rfl, List.forall_mem_cons.mpr ⟨rfl, (fun _ hn => absurd hn List.not_mem_nil)⟩⟩) 1 rfl ?_
  show AW κ pX9_walk 5 (some (aI q.1), q.2) 0 [some (aR 9 0 59), some (aR 5 0 s), none] [] σ
  refine aw_seq [(.aload_n 1, 1, ax0)] (pc' := 1) (L' := [some (aR 9 0 59), some (aR 5 0 s), none]) (stk' := [aR 5 0 s]) (σ' := σ) (g := []) (by decide +kernel) rfl rfl ?_
  obtain ⟨r3, σ2, h1, h⟩ := bnd_some h
  refine aw_cV (P' := pX5_hangTogether) (idx := 32) (d' := 4) (c := 5) (n := 0) (k := s) [] [] (ov := (some (aI r3))) (stk2 := [aI r3]) okp_X5_hangTogether (by decide +kernel) ml_RX9_32 vok_X5_hangTogether (by decide) rfl nar_X5_hangTogether (by decide) rfl (Nat.le_of_ble_eq_true rfl) (ok_X5_hangTogether h1) rfl ?_
  refine aw_if_ne (off := 5) (tgt := 9) (by decide +kernel) (by decide) (fun c1 => ?_) (fun c1 => ?_)
  · rw [if_neg c1] at h
    refine aw_seq [(.aload_n 1, 1, ax0)] (pc' := 10) (L' := [some (aR 9 0 59), some (aR 5 0 s), none]) (stk' := [aR 5 0 s]) (σ' := σ2) (g := []) (by decide +kernel) rfl rfl ?_
    obtain ⟨r6, σ5, h4, h⟩ := bnd_some h
    refine aw_cV (P' := pX5_odd) (idx := 36) (d' := 2) (c := 5) (n := 0) (k := s) [] [] (ov := (some (aI r6))) (stk2 := [aI r6]) okp_X5_odd (by decide +kernel) ml_RX9_36 vok_X5_odd (by decide) rfl nar_X5_odd (by decide) rfl (Nat.le_of_ble_eq_true rfl) (ok_X5_odd h4) rfl ?_
    refine aw_seq [(.istore_n 2, 1, ax0), (.aload_n 0, 1, ax0), (.aload_n 1, 1, ax0), (.iload_n 2, 1, ax0)] (pc' := 17) (L' := [some (aR 9 0 59), some (aR 5 0 s), some (aI r6)]) (stk' := [aI r6, aR 5 0 s, aR 9 0 59]) (σ' := σ5) (g := []) (by decide +kernel) rfl rfl ?_
    obtain ⟨σ8, h7, h⟩ := bndV_some h
    refine aw_cV (P' := pX9_pairUp) (idx := 40) (d' := 4) (c := 9) (n := 0) (k := 59) [aR 5 0 s, aI r6] [] (ov := none) (stk2 := []) okp_X9_pairUp (by decide +kernel) ml_RX9_40 vok_X9_pairUp (by decide) rfl nar_X9_pairUp (by decide) rfl (Nat.le_of_ble_eq_true rfl) (ok_X9_pairUp h7) rfl ?_
    refine aw_seq [(.aload_n 1, 1, ax0)] (pc' := 21) (L' := [some (aR 9 0 59), some (aR 5 0 s), some (aI r6)]) (stk' := [aR 5 0 s]) (σ' := σ8) (g := []) (by decide +kernel) rfl rfl ?_
    obtain ⟨r11, σ10, h9, h⟩ := bnd_some h
    refine aw_cV (P' := pX5_together) (idx := 44) (d' := 1) (c := 5) (n := 0) (k := s) [] [] (ov := (some (aI r11))) (stk2 := [aI r11]) okp_X5_together (by decide +kernel) ml_RX9_44 vok_X5_together (by decide) rfl nar_X5_together (by decide) rfl (Nat.le_of_ble_eq_true rfl) (ok_X5_together h9) rfl ?_
    obtain ⟨hg, h⟩ := grd_some h
    refine aw_seq [(.aload_n 0, 1, ax0), (.getfield 15, 3, (axF 9 1 (2, 2, 13, some 256))), (.iload_n 2, 1, ax0), (.iaload, 1, ax0), (.iadd, 1, ax0)] (pc' := 31) (L' := [some (aR 9 0 59), some (aR 5 0 s), some (aI r6)]) (stk' := [aI (r11 + (σ10.1 61 (ix r6)))]) (σ' := σ10) (g := [inb r6 256]) (by decide +kernel) rfl hg ?_
    cases h
    exact aw_iret rfl (by decide +kernel)
  · rw [if_pos c1] at h
    refine aw_seq [(.iconst (-1), 1, (axI (-1)))] (pc' := 8) (L' := [some (aR 9 0 59), some (aR 5 0 s), none]) (stk' := [aI (-1)]) (σ' := σ2) (g := []) (by decide +kernel) rfl rfl ?_
    cases h
    exact aw_iret rfl (by decide +kernel)
def f_X11_round (v1 : Int32) (σ : Sg) : Option (Int32 × Sg) :=
  if v1 = 0 then (
    bnd (f_X9_walk 8 σ) fun r3 σ2 =>
    some (r3, σ2)
  ) else (
  if v1 = 1 then (
    bnd (f_X5_odd 8 σ) fun r6 σ5 =>
    some (r6, σ5)
  ) else (
    some ((-1), σ)
  ))
set_option maxRecDepth 100000 in
set_option maxHeartbeats 4000000 in
theorem ok_X11_round {κ : Kd} {v1 : Int32} {σ : Sg} {q : (Int32 × Sg)} (h : f_X11_round v1 σ = some q) : AMet κ pX11_round 6 [aR 11 0 0, aI v1] σ (some (aI q.1), q.2) := by
  unfold f_X11_round at h
  refine amet_of okp_X11_round [(false, aR 11 0 0), (false, aI v1)] (List.forall_mem_cons.mpr ⟨rfl, List.forall_mem_cons.mpr ⟨rfl, (fun _ hn => absurd hn List.not_mem_nil)⟩⟩) 0 rfl ?_
  show AW κ pX11_round 6 (some (aI q.1), q.2) 0 [some (aR 11 0 0), some (aI v1)] [] σ
  refine aw_seq [(.iload_n 1, 1, ax0)] (pc' := 1) (L' := [some (aR 11 0 0), some (aI v1)]) (stk' := [aI v1]) (σ' := σ) (g := []) (by decide +kernel) rfl rfl ?_
  refine aw_lookup (dflt := 53) (ps := #[(0, 27), (1, 42)]) (len := 27) (dt := 54) (by decide +kernel) [(0, 28), (1, 43)] (by decide +kernel) ?_
  refine awsw_cons (fun c1 => ?_) (fun c1 => ?_)
  · rw [if_pos c1] at h
    refine aw_seq [(.aload_n 0, 1, ax0), (.getfield 43, 3, (axF 11 5 (2, 59, 9, some 0))), (.aload_n 0, 1, ax0), (.getfield 10, 3, (axF 11 0 (2, 1, 10, some 0))), (.getfield 83, 3, (axF 10 1 (2, 7, 5, some 0)))] (pc' := 39) (L' := [some (aR 11 0 0), some (aI v1)]) (stk' := [aR 5 0 8, aR 9 0 59]) (σ' := σ) (g := []) (by decide +kernel) rfl rfl ?_
    obtain ⟨r3, σ2, h1, h⟩ := bnd_some h
    refine aw_cV (P' := pX9_walk) (idx := 254) (d' := 5) (c := 9) (n := 0) (k := 59) [aR 5 0 8] [] (ov := (some (aI r3))) (stk2 := [aI r3]) okp_X9_walk (by decide +kernel) ml_RX11_254 vok_X9_walk (by decide) rfl nar_X9_walk (by decide) rfl (Nat.le_of_ble_eq_true rfl) (ok_X9_walk h1) rfl ?_
    cases h
    exact aw_iret rfl (by decide +kernel)
  rw [if_neg c1] at h
  refine awsw_cons (fun c1 => ?_) (fun c1 => ?_)
  · rw [if_pos c1] at h
    refine aw_seq [(.aload_n 0, 1, ax0), (.getfield 10, 3, (axF 11 0 (2, 1, 10, some 0))), (.getfield 83, 3, (axF 10 1 (2, 7, 5, some 0)))] (pc' := 50) (L' := [some (aR 11 0 0), some (aI v1)]) (stk' := [aR 5 0 8]) (σ' := σ) (g := []) (by decide +kernel) rfl rfl ?_
    obtain ⟨r6, σ5, h4, h⟩ := bnd_some h
    refine aw_cV (P' := pX5_odd) (idx := 258) (d' := 2) (c := 5) (n := 0) (k := 8) [] [] (ov := (some (aI r6))) (stk2 := [aI r6]) okp_X5_odd (by decide +kernel) ml_RX11_258 vok_X5_odd (by decide) rfl nar_X5_odd (by decide) rfl (Nat.le_of_ble_eq_true rfl) (ok_X5_odd h4) rfl ?_
    cases h
    exact aw_iret rfl (by decide +kernel)
  rw [if_neg c1] at h
  refine awsw_nil ?_
  refine aw_seq [(.iconst (-1), 1, (axI (-1)))] (pc' := 55) (L' := [some (aR 11 0 0), some (aI v1)]) (stk' := [aI (-1)]) (σ' := σ) (g := []) (by decide +kernel) rfl rfl ?_
  cases h
  exact aw_iret rfl (by decide +kernel)
def f_X9_partner_62 (s : Nat)  (s0 : Int32) (σ : Sg) : Option (Int32 × Sg) :=
  some (s0, σ)
set_option maxRecDepth 100000 in
set_option maxHeartbeats 4000000 in
theorem ok_X9_partner_62 {κ : Kd} {s : Nat}   : ∀ (s0 : Int32) (σ : Sg) (q : (Int32 × Sg)), f_X9_partner_62 s s0 σ = some q → AW κ pX9_partner 5 (some (aI q.1), q.2) 62 [none, none, none, none, none, none, none] [aI s0] σ := by
  intro s0 σ q h
  unfold f_X9_partner_62 at h
  cases h
  exact aw_iret rfl (by decide +kernel)
def f_X9_partner_49 (s : Nat)  (v2 : Int32) (v5 : Int32) (v6 : Int32) (σ : Sg) : Option (Int32 × Sg) :=
  if v5 = v2 then (
    f_X9_partner_62 s v6 σ
  ) else (
    f_X9_partner_62 s v5 σ
  )
set_option maxRecDepth 100000 in
set_option maxHeartbeats 4000000 in
theorem ok_X9_partner_49 {κ : Kd} {s : Nat}   : ∀ (v2 : Int32) (v5 : Int32) (v6 : Int32) (σ : Sg) (q : (Int32 × Sg)), f_X9_partner_49 s v2 v5 v6 σ = some q → AW κ pX9_partner 5 (some (aI q.1), q.2) 49 [none, none, some (aI v2), none, none, some (aI v5), some (aI v6)] [] σ := by
  intro v2 v5 v6 σ q h
  unfold f_X9_partner_49 at h
  refine aw_seq [(.iload 5, 2, ax0), (.iload_n 2, 1, ax0)] (pc' := 52) (L' := [none, none, some (aI v2), none, none, some (aI v5), some (aI v6)]) (stk' := [aI v2, aI v5]) (σ' := σ) (g := []) (by decide +kernel) rfl rfl ?_
  refine aw_icmp_ne (off := 8) (tgt := 60) (by decide +kernel) (by decide) (fun c1 => ?_) (fun c1 => ?_)
  · rw [if_neg c1] at h
    refine aw_seq [(.iload 5, 2, ax0)] (pc' := 62) (L' := [none, none, some (aI v2), none, none, some (aI v5), some (aI v6)]) (stk' := [aI v5]) (σ' := σ) (g := []) (by decide +kernel) rfl rfl ?_
    refine aw_forget (L' := [none, none, none, none, none, none, none]) (lsub_n (lsub_n (lsub_n (lsub_n (lsub_n (lsub_n (lsub_n (lsub_0)))))))) ?_
    exact ok_X9_partner_62 v5 σ _ h
  · rw [if_pos c1] at h
    refine aw_seq [(.iload 6, 2, ax0)] (pc' := 57) (L' := [none, none, some (aI v2), none, none, some (aI v5), some (aI v6)]) (stk' := [aI v6]) (σ' := σ) (g := []) (by decide +kernel) rfl rfl ?_
    refine aw_goto (off := 5) (tgt := 62) (by decide +kernel) (by decide) ?_
    refine aw_forget (L' := [none, none, none, none, none, none, none]) (lsub_n (lsub_n (lsub_n (lsub_n (lsub_n (lsub_n (lsub_n (lsub_0)))))))) ?_
    exact ok_X9_partner_62 v6 σ _ h
def f_X9_partner_83 (s : Nat)   (σ : Sg) : Option (Int32 × Sg) :=
  some ((-1), σ)
set_option maxRecDepth 100000 in
set_option maxHeartbeats 4000000 in
theorem ok_X9_partner_83 {κ : Kd} {s : Nat}   : ∀  (σ : Sg) (q : (Int32 × Sg)), f_X9_partner_83 s  σ = some q → AW κ pX9_partner 5 (some (aI q.1), q.2) 83 [none, none, none, none, none, none, none] [] σ := by
  intro  σ q h
  unfold f_X9_partner_83 at h
  refine aw_seq [(.iconst (-1), 1, (axI (-1)))] (pc' := 84) (L' := [none, none, none, none, none, none, none]) (stk' := [aI (-1)]) (σ' := σ) (g := []) (by decide +kernel) rfl rfl ?_
  cases h
  exact aw_iret rfl (by decide +kernel)
def f_X9_partner_14 (s : Nat)  : Nat → Int32 → Int32 → Int32 → Sg → Option (Int32 × Sg)
  | 0, _, _, _, _ => none
  | fu + 1, v2, v3, v4, σ =>
    if 4 ≤ v4 then (
      f_X9_partner_83 s σ
    ) else (
      if v3 = 0 then (
        f_X9_partner_83 s σ
      ) else (
        bnd (f_X9_lowestOf v3 σ) fun r3 σ2 =>
        bnd (f_X9_lowestPartner v3 σ2) fun r6 σ5 =>
        if r3 = v2 then (
          f_X9_partner_49 s v2 r3 r6 σ5
        ) else (
          if r6 = v2 then (
            f_X9_partner_49 s v2 r3 r6 σ5
          ) else (
            (f_X9_partner_14 s fu) v2 (v3 &&& (((shl 1 r3) ||| (shl 1 r6)) ^^^ (-1))) (v4 + 1) σ5
          )
        )
      )
    )
set_option maxRecDepth 100000 in
set_option maxHeartbeats 4000000 in
theorem ok_X9_partner_14 {κ : Kd} {s : Nat}   : ∀ (fu : Nat) (v2 : Int32) (v3 : Int32) (v4 : Int32) (σ : Sg) (q : (Int32 × Sg)), f_X9_partner_14 s fu v2 v3 v4 σ = some q → AW κ pX9_partner 5 (some (aI q.1), q.2) 14 [some (aR 9 0 59), none, some (aI v2), some (aI v3), some (aI v4), none, none] [] σ := by
  intro fu
  induction fu with
  | zero =>
    intro v2 v3 v4 σ q h
    unfold f_X9_partner_14 at h
    cases h
  | succ fu ih =>
    intro v2 v3 v4 σ q h
    unfold f_X9_partner_14 at h
    refine aw_seq [(.iload 4, 2, ax0), (.iconst 4, 1, (axI 4))] (pc' := 17) (L' := [some (aR 9 0 59), none, some (aI v2), some (aI v3), some (aI v4), none, none]) (stk' := [aI 4, aI v4]) (σ' := σ) (g := []) (by decide +kernel) rfl rfl ?_
    refine aw_icmp_ge (off := 66) (tgt := 83) (by decide +kernel) (by decide) (fun c1 => ?_) (fun c1 => ?_)
    · rw [if_pos c1] at h
      refine aw_forget (L' := [none, none, none, none, none, none, none]) (lsub_n (lsub_n (lsub_n (lsub_n (lsub_n (lsub_n (lsub_n (lsub_0)))))))) ?_
      exact ok_X9_partner_83 σ _ h
    · rw [if_neg c1] at h
      refine aw_seq [(.iload_n 3, 1, ax0)] (pc' := 21) (L' := [some (aR 9 0 59), none, some (aI v2), some (aI v3), some (aI v4), none, none]) (stk' := [aI v3]) (σ' := σ) (g := []) (by decide +kernel) rfl rfl ?_
      refine aw_if_eq (off := 62) (tgt := 83) (by decide +kernel) (by decide) (fun c1 => ?_) (fun c1 => ?_)
      · rw [if_pos c1] at h
        refine aw_forget (L' := [none, none, none, none, none, none, none]) (lsub_n (lsub_n (lsub_n (lsub_n (lsub_n (lsub_n (lsub_n (lsub_0)))))))) ?_
        exact ok_X9_partner_83 σ _ h
      · rw [if_neg c1] at h
        refine aw_seq [(.iload_n 3, 1, ax0)] (pc' := 25) (L' := [some (aR 9 0 59), none, some (aI v2), some (aI v3), some (aI v4), none, none]) (stk' := [aI v3]) (σ' := σ) (g := []) (by decide +kernel) rfl rfl ?_
        obtain ⟨r3, σ2, h1, h⟩ := bnd_some h
        refine aw_cS (P' := pX9_lowestOf) (idx := 47) (d' := 1) [aI v3] [] (ov := (some (aI r3))) (stk2 := [aI r3]) okp_X9_lowestOf (by decide +kernel) ml_RX9_47 tok_X9_lowestOf nar_X9_lowestOf (by decide) rfl (Nat.le_of_ble_eq_true rfl) (ok_X9_lowestOf h1) rfl ?_
        refine aw_seq [(.istore 5, 2, ax0), (.aload_n 0, 1, ax0), (.iload_n 3, 1, ax0)] (pc' := 32) (L' := [some (aR 9 0 59), none, some (aI v2), some (aI v3), some (aI v4), some (aI r3), none]) (stk' := [aI v3, aR 9 0 59]) (σ' := σ2) (g := []) (by decide +kernel) rfl rfl ?_
        obtain ⟨r6, σ5, h4, h⟩ := bnd_some h
        refine aw_cV (P' := pX9_lowestPartner) (idx := 51) (d' := 3) (c := 9) (n := 0) (k := 59) [aI v3] [] (ov := (some (aI r6))) (stk2 := [aI r6]) okp_X9_lowestPartner (by decide +kernel) ml_RX9_51 vok_X9_lowestPartner (by decide) rfl nar_X9_lowestPartner (by decide) rfl (Nat.le_of_ble_eq_true rfl) (ok_X9_lowestPartner h4) rfl ?_
        refine aw_seq [(.istore 6, 2, ax0), (.iload 5, 2, ax0), (.iload_n 2, 1, ax0)] (pc' := 40) (L' := [some (aR 9 0 59), none, some (aI v2), some (aI v3), some (aI v4), some (aI r3), some (aI r6)]) (stk' := [aI v2, aI r3]) (σ' := σ5) (g := []) (by decide +kernel) rfl rfl ?_
        refine aw_icmp_eq (off := 9) (tgt := 49) (by decide +kernel) (by decide) (fun c1 => ?_) (fun c1 => ?_)
        · rw [if_pos c1] at h
          refine aw_forget (L' := [none, none, some (aI v2), none, none, some (aI r3), some (aI r6)]) (lsub_n (lsub_n (lsub_s (lsub_n (lsub_n (lsub_s (lsub_s (lsub_0)))))))) ?_
          exact ok_X9_partner_49 v2 r3 r6 σ5 _ h
        · rw [if_neg c1] at h
          refine aw_seq [(.iload 6, 2, ax0), (.iload_n 2, 1, ax0)] (pc' := 46) (L' := [some (aR 9 0 59), none, some (aI v2), some (aI v3), some (aI v4), some (aI r3), some (aI r6)]) (stk' := [aI v2, aI r6]) (σ' := σ5) (g := []) (by decide +kernel) rfl rfl ?_
          refine aw_icmp_ne (off := 17) (tgt := 63) (by decide +kernel) (by decide) (fun c1 => ?_) (fun c1 => ?_)
          · rw [if_neg c1] at h
            refine aw_seq [(.iload_n 3, 1, ax0), (.iconst 1, 1, (axI 1)), (.iload 5, 2, ax0), (.ishl, 1, ax0), (.iconst 1, 1, (axI 1)), (.iload 6, 2, ax0), (.ishl, 1, ax0), (.ior, 1, ax0), (.iconst (-1), 1, (axI (-1))), (.ixor, 1, ax0), (.iand, 1, ax0), (.istore_n 3, 1, ax0), (.iinc 4 1, 3, (axI 1))] (pc' := 80) (L' := [some (aR 9 0 59), none, some (aI v2), some (aI (v3 &&& (((shl 1 r3) ||| (shl 1 r6)) ^^^ (-1)))), some (aI (v4 + 1)), some (aI r3), some (aI r6)]) (stk' := []) (σ' := σ5) (g := []) (by decide +kernel) rfl rfl ?_
            refine aw_goto (off := (-66)) (tgt := 14) (by decide +kernel) (by decide) ?_
            refine aw_forget (L' := [some (aR 9 0 59), none, some (aI v2), some (aI (v3 &&& (((shl 1 r3) ||| (shl 1 r6)) ^^^ (-1)))), some (aI (v4 + 1)), none, none]) (lsub_s (lsub_n (lsub_s (lsub_s (lsub_s (lsub_n (lsub_n (lsub_0)))))))) ?_
            exact ih v2 (v3 &&& (((shl 1 r3) ||| (shl 1 r6)) ^^^ (-1))) (v4 + 1) σ5 _ h
          · rw [if_pos c1] at h
            refine aw_forget (L' := [none, none, some (aI v2), none, none, some (aI r3), some (aI r6)]) (lsub_n (lsub_n (lsub_s (lsub_n (lsub_n (lsub_s (lsub_s (lsub_0)))))))) ?_
            exact ok_X9_partner_49 v2 r3 r6 σ5 _ h
def f_X9_partner (s : Nat) (v2 : Int32) (σ : Sg) : Option (Int32 × Sg) :=
  bnd (f_X5_odd s σ) fun r9 σ8 =>
  bndV (f_X9_pairUp s r9 σ8) fun σ11 =>
  f_X9_partner_14 s FU v2 r9 0 σ11
set_option maxRecDepth 100000 in
set_option maxHeartbeats 4000000 in
theorem ok_X9_partner {κ : Kd} {s : Nat} {v2 : Int32} {σ : Sg} {q : (Int32 × Sg)} (h : f_X9_partner s v2 σ = some q) : AMet κ pX9_partner 5 [aR 9 0 59, aR 5 0 s, aI v2] σ (some (aI q.1), q.2) := by
  unfold f_X9_partner at h
  refine amet_of okp_X9_partner [(false, aR 9 0 59), (false, aR 5 0 s), (false, aI v2)] (List.forall_mem_cons.mpr ⟨rfl, List.forall_mem_cons.mpr ⟨rfl, List.forall_mem_cons.mpr ⟨rfl, (fun _ hn => absurd hn List.not_mem_nil)⟩⟩⟩) 4 rfl ?_
  show AW κ pX9_partner 5 (some (aI q.1), q.2) 0 [some (aR 9 0 59), some (aR 5 0 s), some (aI v2), none, none, none, none] [] σ
  refine aw_seq [(.aload_n 1, 1, ax0)] (pc' := 1) (L' := [some (aR 9 0 59), some (aR 5 0 s), some (aI v2), none, none, none, none]) (stk' := [aR 5 0 s]) (σ' := σ) (g := []) (by decide +kernel) rfl rfl ?_
  obtain ⟨r9, σ8, h7, h⟩ := bnd_some h
  refine aw_cV (P' := pX5_odd) (idx := 36) (d' := 2) (c := 5) (n := 0) (k := s) [] [] (ov := (some (aI r9))) (stk2 := [aI r9]) okp_X5_odd (by decide +kernel) ml_RX9_36 vok_X5_odd (by decide) rfl nar_X5_odd (by decide) rfl (Nat.le_of_ble_eq_true rfl) (ok_X5_odd h7) rfl ?_
  refine aw_seq [(.istore_n 3, 1, ax0), (.aload_n 0, 1, ax0), (.aload_n 1, 1, ax0), (.iload_n 3, 1, ax0)] (pc' := 8) (L' := [some (aR 9 0 59), some (aR 5 0 s), some (aI v2), some (aI r9), none, none, none]) (stk' := [aI r9, aR 5 0 s, aR 9 0 59]) (σ' := σ8) (g := []) (by decide +kernel) rfl rfl ?_
  obtain ⟨σ11, h10, h⟩ := bndV_some h
  refine aw_cV (P' := pX9_pairUp) (idx := 40) (d' := 4) (c := 9) (n := 0) (k := 59) [aR 5 0 s, aI r9] [] (ov := none) (stk2 := []) okp_X9_pairUp (by decide +kernel) ml_RX9_40 vok_X9_pairUp (by decide) rfl nar_X9_pairUp (by decide) rfl (Nat.le_of_ble_eq_true rfl) (ok_X9_pairUp h10) rfl ?_
  refine aw_seq [(.iconst 0, 1, (axI 0)), (.istore 4, 2, ax0)] (pc' := 14) (L' := [some (aR 9 0 59), some (aR 5 0 s), some (aI v2), some (aI r9), some (aI 0), none, none]) (stk' := []) (σ' := σ11) (g := []) (by decide +kernel) rfl rfl ?_
  refine aw_forget (L' := [some (aR 9 0 59), none, some (aI v2), some (aI r9), some (aI 0), none, none]) (lsub_s (lsub_n (lsub_s (lsub_s (lsub_s (lsub_n (lsub_n (lsub_0)))))))) ?_
  exact ok_X9_partner_14 FU v2 r9 0 σ11 _ h
def f_X11_again_27    (σ : Sg) : Option (Int32 × Sg) :=
  some ((-1), σ)
set_option maxRecDepth 100000 in
set_option maxHeartbeats 4000000 in
theorem ok_X11_again_27 {κ : Kd}    : ∀  (σ : Sg) (q : (Int32 × Sg)), f_X11_again_27  σ = some q → AW κ pX11_again 6 (some (aI q.1), q.2) 27 [none, none] [] σ := by
  intro  σ q h
  unfold f_X11_again_27 at h
  refine aw_seq [(.iconst (-1), 1, (axI (-1)))] (pc' := 28) (L' := [none, none]) (stk' := [aI (-1)]) (σ' := σ) (g := []) (by decide +kernel) rfl rfl ?_
  cases h
  exact aw_iret rfl (by decide +kernel)
def f_X11_again (v1 : Int32) (σ : Sg) : Option (Int32 × Sg) :=
  bnd (f_X8_told 2 v1 σ) fun r3 σ2 =>
  if r3 = 0 then (
    f_X11_again_27 σ2
  ) else (
    bnd (f_X5_hangTogether 8 σ2) fun r6 σ5 =>
    if r6 = 0 then (
      f_X11_again_27 σ5
    ) else (
      bnd (f_X9_partner 8 v1 σ5) fun r9 σ8 =>
      some (r9, σ8)
    )
  )
set_option maxRecDepth 100000 in
set_option maxHeartbeats 4000000 in
theorem ok_X11_again {κ : Kd} {v1 : Int32} {σ : Sg} {q : (Int32 × Sg)} (h : f_X11_again v1 σ = some q) : AMet κ pX11_again 6 [aR 11 0 0, aI v1] σ (some (aI q.1), q.2) := by
  unfold f_X11_again at h
  refine amet_of okp_X11_again [(false, aR 11 0 0), (false, aI v1)] (List.forall_mem_cons.mpr ⟨rfl, List.forall_mem_cons.mpr ⟨rfl, (fun _ hn => absurd hn List.not_mem_nil)⟩⟩) 0 rfl ?_
  show AW κ pX11_again 6 (some (aI q.1), q.2) 0 [some (aR 11 0 0), some (aI v1)] [] σ
  refine aw_seq [(.aload_n 0, 1, ax0), (.getfield 10, 3, (axF 11 0 (2, 1, 10, some 0))), (.getfield 68, 3, (axF 10 0 (2, 1, 8, some 0))), (.iload_n 1, 1, ax0)] (pc' := 8) (L' := [some (aR 11 0 0), some (aI v1)]) (stk' := [aI v1, aR 8 0 2]) (σ' := σ) (g := []) (by decide +kernel) rfl rfl ?_
  obtain ⟨r3, σ2, h1, h⟩ := bnd_some h
  refine aw_cV (P' := pX8_told) (idx := 75) (d' := 1) (c := 8) (n := 0) (k := 2) [aI v1] [] (ov := (some (aI r3))) (stk2 := [aI r3]) okp_X8_told (by decide +kernel) ml_RX11_75 vok_X8_told (by decide) rfl nar_X8_told (by decide) rfl (Nat.le_of_ble_eq_true rfl) (ok_X8_told h1) rfl ?_
  refine aw_if_eq (off := 16) (tgt := 27) (by decide +kernel) (by decide) (fun c1 => ?_) (fun c1 => ?_)
  · rw [if_pos c1] at h
    refine aw_forget (L' := [none, none]) (lsub_n (lsub_n (lsub_0))) ?_
    exact ok_X11_again_27 σ2 _ h
  · rw [if_neg c1] at h
    refine aw_seq [(.aload_n 0, 1, ax0), (.getfield 10, 3, (axF 11 0 (2, 1, 10, some 0))), (.getfield 83, 3, (axF 10 1 (2, 7, 5, some 0)))] (pc' := 21) (L' := [some (aR 11 0 0), some (aI v1)]) (stk' := [aR 5 0 8]) (σ' := σ2) (g := []) (by decide +kernel) rfl rfl ?_
    obtain ⟨r6, σ5, h4, h⟩ := bnd_some h
    refine aw_cV (P' := pX5_hangTogether) (idx := 261) (d' := 4) (c := 5) (n := 0) (k := 8) [] [] (ov := (some (aI r6))) (stk2 := [aI r6]) okp_X5_hangTogether (by decide +kernel) ml_RX11_261 vok_X5_hangTogether (by decide) rfl nar_X5_hangTogether (by decide) rfl (Nat.le_of_ble_eq_true rfl) (ok_X5_hangTogether h4) rfl ?_
    refine aw_if_ne (off := 5) (tgt := 29) (by decide +kernel) (by decide) (fun c1 => ?_) (fun c1 => ?_)
    · rw [if_neg c1] at h
      refine aw_seq [(.aload_n 0, 1, ax0), (.getfield 43, 3, (axF 11 5 (2, 59, 9, some 0))), (.aload_n 0, 1, ax0), (.getfield 10, 3, (axF 11 0 (2, 1, 10, some 0))), (.getfield 83, 3, (axF 10 1 (2, 7, 5, some 0))), (.iload_n 1, 1, ax0)] (pc' := 41) (L' := [some (aR 11 0 0), some (aI v1)]) (stk' := [aI v1, aR 5 0 8, aR 9 0 59]) (σ' := σ5) (g := []) (by decide +kernel) rfl rfl ?_
      obtain ⟨r9, σ8, h7, h⟩ := bnd_some h
      refine aw_cV (P' := pX9_partner) (idx := 264) (d' := 5) (c := 9) (n := 0) (k := 59) [aR 5 0 8, aI v1] [] (ov := (some (aI r9))) (stk2 := [aI r9]) okp_X9_partner (by decide +kernel) ml_RX11_264 vok_X9_partner (by decide) rfl nar_X9_partner (by decide) rfl (Nat.le_of_ble_eq_true rfl) (ok_X9_partner h7) rfl ?_
      cases h
      exact aw_iret rfl (by decide +kernel)
    · rw [if_pos c1] at h
      refine aw_forget (L' := [none, none]) (lsub_n (lsub_n (lsub_0))) ?_
      exact ok_X11_again_27 σ5 _ h
def f_X11_warmth_21    (σ : Sg) : Option (Int32 × Sg) :=
  some (0, σ)
set_option maxRecDepth 100000 in
set_option maxHeartbeats 4000000 in
theorem ok_X11_warmth_21 {κ : Kd}    : ∀  (σ : Sg) (q : (Int32 × Sg)), f_X11_warmth_21  σ = some q → AW κ pX11_warmth 2 (some (aI q.1), q.2) 21 [none, none, none] [] σ := by
  intro  σ q h
  unfold f_X11_warmth_21 at h
  refine aw_seq [(.iconst 0, 1, (axI 0))] (pc' := 22) (L' := [none, none, none]) (stk' := [aI 0]) (σ' := σ) (g := []) (by decide +kernel) rfl rfl ?_
  cases h
  exact aw_zret rfl bz_0 (by decide +kernel)
def f_X11_warmth (v1 : Int32) (v2 : Int32) (σ : Sg) : Option (Int32 × Sg) :=
  bnd (f_X11_within v1 0 23 σ) fun r3 σ2 =>
  if r3 = 0 then (
    f_X11_warmth_21 σ2
  ) else (
    bnd (f_X11_within v2 (-99) 99 σ2) fun r6 σ5 =>
    if r6 = 0 then (
      f_X11_warmth_21 σ5
    ) else (
      grd (inb v1 24 && true) <|
      ltσ (wI σ5 14 (ix v1) v2) fun σ7 =>
      some (1, σ7)
    )
  )
set_option maxRecDepth 100000 in
set_option maxHeartbeats 4000000 in
theorem ok_X11_warmth {κ : Kd} {v1 : Int32} {v2 : Int32} {σ : Sg} {q : (Int32 × Sg)} (h : f_X11_warmth v1 v2 σ = some q) : AMet κ pX11_warmth 2 [aR 11 0 0, aI v1, aI v2] σ (some (aI q.1), q.2) := by
  unfold f_X11_warmth at h
  refine amet_of okp_X11_warmth [(false, aR 11 0 0), (false, aI v1), (false, aI v2)] (List.forall_mem_cons.mpr ⟨rfl, List.forall_mem_cons.mpr ⟨rfl, List.forall_mem_cons.mpr ⟨rfl, (fun _ hn => absurd hn List.not_mem_nil)⟩⟩⟩) 0 rfl ?_
  show AW κ pX11_warmth 2 (some (aI q.1), q.2) 0 [some (aR 11 0 0), some (aI v1), some (aI v2)] [] σ
  refine aw_seq [(.iload_n 1, 1, ax0), (.iconst 0, 1, (axI 0)), (.bipush 23, 2, (axI 23))] (pc' := 4) (L' := [some (aR 11 0 0), some (aI v1), some (aI v2)]) (stk' := [aI 23, aI 0, aI v1]) (σ' := σ) (g := []) (by decide +kernel) rfl rfl ?_
  obtain ⟨r3, σ2, h1, h⟩ := bnd_some h
  refine aw_cS (P' := pX11_within) (idx := 79) (d' := 1) [aI v1, aI 0, aI 23] [] (ov := (some (aI r3))) (stk2 := [aI r3]) okp_X11_within (by decide +kernel) ml_RX11_79 tok_X11_within nar_X11_within (by decide) rfl (Nat.le_of_ble_eq_true rfl) (ok_X11_within h1) rfl ?_
  refine aw_if_eq (off := 14) (tgt := 21) (by decide +kernel) (by decide) (fun c1 => ?_) (fun c1 => ?_)
  · rw [if_pos c1] at h
    refine aw_forget (L' := [none, none, none]) (lsub_n (lsub_n (lsub_n (lsub_0)))) ?_
    exact ok_X11_warmth_21 σ2 _ h
  · rw [if_neg c1] at h
    refine aw_seq [(.iload_n 2, 1, ax0), (.bipush (-99), 2, (axI (-99))), (.bipush 99, 2, (axI 99))] (pc' := 15) (L' := [some (aR 11 0 0), some (aI v1), some (aI v2)]) (stk' := [aI 99, aI (-99), aI v2]) (σ' := σ2) (g := []) (by decide +kernel) rfl rfl ?_
    obtain ⟨r6, σ5, h4, h⟩ := bnd_some h
    refine aw_cS (P' := pX11_within) (idx := 79) (d' := 1) [aI v2, aI (-99), aI 99] [] (ov := (some (aI r6))) (stk2 := [aI r6]) okp_X11_within (by decide +kernel) ml_RX11_79 tok_X11_within nar_X11_within (by decide) rfl (Nat.le_of_ble_eq_true rfl) (ok_X11_within h4) rfl ?_
    refine aw_if_ne (off := 5) (tgt := 23) (by decide +kernel) (by decide) (fun c1 => ?_) (fun c1 => ?_)
    · rw [if_neg c1] at h
      obtain ⟨hg, h⟩ := grd_some h
      obtain ⟨σ7, e8, h⟩ := ltσ_some h
      refine aw_seq [(.aload_n 0, 1, ax0), (.getfield 10, 3, (axF 11 0 (2, 1, 10, some 0))), (.getfield 268, 3, (axF 10 6 (2, 13, 13, some 24))), (.iload_n 1, 1, ax0), (.iload_n 2, 1, ax0), (.iastore, 1, ax0)] (pc' := 33) (L' := [some (aR 11 0 0), some (aI v1), some (aI v2)]) (stk' := []) (σ' := σ7) (g := [inb v1 24]) (by decide +kernel) (by rw [e8]; rfl) hg ?_
      refine aw_seq [(.iconst 1, 1, (axI 1))] (pc' := 34) (L' := [some (aR 11 0 0), some (aI v1), some (aI v2)]) (stk' := [aI 1]) (σ' := σ7) (g := []) (by decide +kernel) rfl rfl ?_
      cases h
      exact aw_zret rfl bz_1 (by decide +kernel)
    · rw [if_pos c1] at h
      refine aw_forget (L' := [none, none, none]) (lsub_n (lsub_n (lsub_n (lsub_0)))) ?_
      exact ok_X11_warmth_21 σ5 _ h
def f_X11_ring_108  (rec_33 : Int32 → Int32 → Int32 → Int32 → Int32 → Int32 → Sg → Option (Int32 × Sg)) (v1 : Int32) (v2 : Int32) (v3 : Int32) (v4 : Int32) (v5 : Int32) (v6 : Int32) (σ : Sg) : Option (Int32 × Sg) :=
  rec_33 v1 v2 v3 v4 v5 (v6 + 1) σ
set_option maxRecDepth 100000 in
set_option maxHeartbeats 4000000 in
theorem ok_X11_ring_108 {κ : Kd}   {rec_33 : Int32 → Int32 → Int32 → Int32 → Int32 → Int32 → Sg → Option (Int32 × Sg)} (hrec_33 : ∀ (v1 : Int32) (v2 : Int32) (v3 : Int32) (v4 : Int32) (v5 : Int32) (v6 : Int32) (σ : Sg) (q : (Int32 × Sg)), rec_33 v1 v2 v3 v4 v5 v6 σ = some q → AW κ pX11_ring 2 (some (aI q.1), q.2) 33 [some (aR 11 0 0), some (aI v1), some (aI v2), some (aI v3), some (aI v4), some (aI v5), some (aI v6), none] [] σ) : ∀ (v1 : Int32) (v2 : Int32) (v3 : Int32) (v4 : Int32) (v5 : Int32) (v6 : Int32) (σ : Sg) (q : (Int32 × Sg)), f_X11_ring_108 rec_33 v1 v2 v3 v4 v5 v6 σ = some q → AW κ pX11_ring 2 (some (aI q.1), q.2) 108 [some (aR 11 0 0), some (aI v1), some (aI v2), some (aI v3), some (aI v4), some (aI v5), some (aI v6), none] [] σ := by
  intro v1 v2 v3 v4 v5 v6 σ q h
  unfold f_X11_ring_108 at h
  refine aw_seq [(.iinc 6 1, 3, (axI 1))] (pc' := 111) (L' := [some (aR 11 0 0), some (aI v1), some (aI v2), some (aI v3), some (aI v4), some (aI v5), some (aI (v6 + 1)), none]) (stk' := []) (σ' := σ) (g := []) (by decide +kernel) rfl rfl ?_
  refine aw_goto (off := (-78)) (tgt := 33) (by decide +kernel) (by decide) ?_
  refine aw_forget (L' := [some (aR 11 0 0), some (aI v1), some (aI v2), some (aI v3), some (aI v4), some (aI v5), some (aI (v6 + 1)), none]) (lsub_s (lsub_s (lsub_s (lsub_s (lsub_s (lsub_s (lsub_s (lsub_n (lsub_0))))))))) ?_
  exact hrec_33 v1 v2 v3 v4 v5 (v6 + 1) σ _ h
def f_X11_ring_98  (rec_33 : Int32 → Int32 → Int32 → Int32 → Int32 → Int32 → Sg → Option (Int32 × Sg)) (v1 : Int32) (v5 : Int32) (v6 : Int32) (v7 : Int32) (σ : Sg) : Option (Int32 × Sg) :=
  f_X11_ring_108 rec_33 v1 v6 v5 v7 v5 v6 σ
set_option maxRecDepth 100000 in
set_option maxHeartbeats 4000000 in
theorem ok_X11_ring_98 {κ : Kd}   {rec_33 : Int32 → Int32 → Int32 → Int32 → Int32 → Int32 → Sg → Option (Int32 × Sg)} (hrec_33 : ∀ (v1 : Int32) (v2 : Int32) (v3 : Int32) (v4 : Int32) (v5 : Int32) (v6 : Int32) (σ : Sg) (q : (Int32 × Sg)), rec_33 v1 v2 v3 v4 v5 v6 σ = some q → AW κ pX11_ring 2 (some (aI q.1), q.2) 33 [some (aR 11 0 0), some (aI v1), some (aI v2), some (aI v3), some (aI v4), some (aI v5), some (aI v6), none] [] σ) : ∀ (v1 : Int32) (v5 : Int32) (v6 : Int32) (v7 : Int32) (σ : Sg) (q : (Int32 × Sg)), f_X11_ring_98 rec_33 v1 v5 v6 v7 σ = some q → AW κ pX11_ring 2 (some (aI q.1), q.2) 98 [some (aR 11 0 0), some (aI v1), none, none, none, some (aI v5), some (aI v6), some (aI v7)] [] σ := by
  intro v1 v5 v6 v7 σ q h
  unfold f_X11_ring_98 at h
  refine aw_seq [(.iload 6, 2, ax0), (.istore_n 2, 1, ax0), (.iload 5, 2, ax0), (.istore_n 3, 1, ax0), (.iload 7, 2, ax0), (.istore 4, 2, ax0)] (pc' := 108) (L' := [some (aR 11 0 0), some (aI v1), some (aI v6), some (aI v5), some (aI v7), some (aI v5), some (aI v6), some (aI v7)]) (stk' := []) (σ' := σ) (g := []) (by decide +kernel) rfl rfl ?_
  refine aw_forget (L' := [some (aR 11 0 0), some (aI v1), some (aI v6), some (aI v5), some (aI v7), some (aI v5), some (aI v6), none]) (lsub_s (lsub_s (lsub_s (lsub_s (lsub_s (lsub_s (lsub_s (lsub_n (lsub_0))))))))) ?_
  exact ok_X11_ring_108 hrec_33 v1 v6 v5 v7 v5 v6 σ _ h
def f_X11_ring_57  (rec_33 : Int32 → Int32 → Int32 → Int32 → Int32 → Int32 → Sg → Option (Int32 × Sg)) (v1 : Int32) (v2 : Int32) (v3 : Int32) (v4 : Int32) (v5 : Int32) (v6 : Int32) (s0 : Int32) (σ : Sg) : Option (Int32 × Sg) :=
  grd ((!decide ((24 : Int32) = 0)) && (inb (jrem ((v6 + v5) - 1) 24) 24 && (inb v6 24 && true))) <|
  ltσ (wI σ 71 (ix v6) (s0 + (σ.1 14 (ix (jrem ((v6 + v5) - 1) 24))))) fun σ1 =>
  if v3 = 0 then (
    f_X11_ring_98 rec_33 v1 v5 v6 (s0 + (σ.1 14 (ix (jrem ((v6 + v5) - 1) 24)))) σ1
  ) else (
    if v4 ≤ (s0 + (σ.1 14 (ix (jrem ((v6 + v5) - 1) 24)))) then (
      f_X11_ring_108 rec_33 v1 v2 v3 v4 v5 v6 σ1
    ) else (
      f_X11_ring_98 rec_33 v1 v5 v6 (s0 + (σ.1 14 (ix (jrem ((v6 + v5) - 1) 24)))) σ1
    )
  )
set_option maxRecDepth 100000 in
set_option maxHeartbeats 4000000 in
theorem ok_X11_ring_57 {κ : Kd}   {rec_33 : Int32 → Int32 → Int32 → Int32 → Int32 → Int32 → Sg → Option (Int32 × Sg)} (hrec_33 : ∀ (v1 : Int32) (v2 : Int32) (v3 : Int32) (v4 : Int32) (v5 : Int32) (v6 : Int32) (σ : Sg) (q : (Int32 × Sg)), rec_33 v1 v2 v3 v4 v5 v6 σ = some q → AW κ pX11_ring 2 (some (aI q.1), q.2) 33 [some (aR 11 0 0), some (aI v1), some (aI v2), some (aI v3), some (aI v4), some (aI v5), some (aI v6), none] [] σ) : ∀ (v1 : Int32) (v2 : Int32) (v3 : Int32) (v4 : Int32) (v5 : Int32) (v6 : Int32) (s0 : Int32) (σ : Sg) (q : (Int32 × Sg)), f_X11_ring_57 rec_33 v1 v2 v3 v4 v5 v6 s0 σ = some q → AW κ pX11_ring 2 (some (aI q.1), q.2) 57 [some (aR 11 0 0), some (aI v1), some (aI v2), some (aI v3), some (aI v4), some (aI v5), some (aI v6), none] [aI s0] σ := by
  intro v1 v2 v3 v4 v5 v6 s0 σ q h
  unfold f_X11_ring_57 at h
  obtain ⟨hg, h⟩ := grd_some h
  obtain ⟨σ1, e2, h⟩ := ltσ_some h
  refine aw_seq [(.aload_n 0, 1, ax0), (.getfield 10, 3, (axF 11 0 (2, 1, 10, some 0))), (.getfield 268, 3, (axF 10 6 (2, 13, 13, some 24))), (.iload 6, 2, ax0), (.iload 5, 2, ax0), (.iadd, 1, ax0), (.iconst 1, 1, (axI 1)), (.isub, 1, ax0), (.bipush 24, 2, (axI 24)), (.irem, 1, ax0), (.iaload, 1, ax0), (.iadd, 1, ax0), (.istore 7, 2, ax0), (.aload_n 0, 1, ax0), (.getfield 65, 3, (axF 11 9 (2, 71, 13, some 24))), (.iload 6, 2, ax0), (.iload 7, 2, ax0), (.iastore, 1, ax0)] (pc' := 87) (L' := [some (aR 11 0 0), some (aI v1), some (aI v2), some (aI v3), some (aI v4), some (aI v5), some (aI v6), some (aI (s0 + (σ.1 14 (ix (jrem ((v6 + v5) - 1) 24)))))]) (stk' := []) (σ' := σ1) (g := [(!decide ((24 : Int32) = 0)), inb (jrem ((v6 + v5) - 1) 24) 24, inb v6 24]) (by decide +kernel) (by rw [e2]; rfl) hg ?_
  refine aw_seq [(.iload_n 3, 1, ax0)] (pc' := 88) (L' := [some (aR 11 0 0), some (aI v1), some (aI v2), some (aI v3), some (aI v4), some (aI v5), some (aI v6), some (aI (s0 + (σ.1 14 (ix (jrem ((v6 + v5) - 1) 24)))))]) (stk' := [aI v3]) (σ' := σ1) (g := []) (by decide +kernel) rfl rfl ?_
  refine aw_if_eq (off := 10) (tgt := 98) (by decide +kernel) (by decide) (fun c1 => ?_) (fun c1 => ?_)
  · rw [if_pos c1] at h
    refine aw_forget (L' := [some (aR 11 0 0), some (aI v1), none, none, none, some (aI v5), some (aI v6), some (aI (s0 + (σ.1 14 (ix (jrem ((v6 + v5) - 1) 24)))))]) (lsub_s (lsub_s (lsub_n (lsub_n (lsub_n (lsub_s (lsub_s (lsub_s (lsub_0))))))))) ?_
    exact ok_X11_ring_98 hrec_33 v1 v5 v6 (s0 + (σ.1 14 (ix (jrem ((v6 + v5) - 1) 24)))) σ1 _ h
  · rw [if_neg c1] at h
    refine aw_seq [(.iload 7, 2, ax0), (.iload 4, 2, ax0)] (pc' := 95) (L' := [some (aR 11 0 0), some (aI v1), some (aI v2), some (aI v3), some (aI v4), some (aI v5), some (aI v6), some (aI (s0 + (σ.1 14 (ix (jrem ((v6 + v5) - 1) 24)))))]) (stk' := [aI v4, aI (s0 + (σ.1 14 (ix (jrem ((v6 + v5) - 1) 24))))]) (σ' := σ1) (g := []) (by decide +kernel) rfl rfl ?_
    refine aw_icmp_ge (off := 13) (tgt := 108) (by decide +kernel) (by decide) (fun c1 => ?_) (fun c1 => ?_)
    · rw [if_pos c1] at h
      refine aw_forget (L' := [some (aR 11 0 0), some (aI v1), some (aI v2), some (aI v3), some (aI v4), some (aI v5), some (aI v6), none]) (lsub_s (lsub_s (lsub_s (lsub_s (lsub_s (lsub_s (lsub_s (lsub_n (lsub_0))))))))) ?_
      exact ok_X11_ring_108 hrec_33 v1 v2 v3 v4 v5 v6 σ1 _ h
    · rw [if_neg c1] at h
      refine aw_forget (L' := [some (aR 11 0 0), some (aI v1), none, none, none, some (aI v5), some (aI v6), some (aI (s0 + (σ.1 14 (ix (jrem ((v6 + v5) - 1) 24)))))]) (lsub_s (lsub_s (lsub_n (lsub_n (lsub_n (lsub_s (lsub_s (lsub_s (lsub_0))))))))) ?_
      exact ok_X11_ring_98 hrec_33 v1 v5 v6 (s0 + (σ.1 14 (ix (jrem ((v6 + v5) - 1) 24)))) σ1 _ h
def f_X11_ring_33  (rec_23 : Int32 → Int32 → Int32 → Int32 → Int32 → Sg → Option (Int32 × Sg)) : Nat → Int32 → Int32 → Int32 → Int32 → Int32 → Int32 → Sg → Option (Int32 × Sg)
  | 0, _, _, _, _, _, _, _ => none
  | fu + 1, v1, v2, v3, v4, v5, v6, σ =>
    if 24 ≤ v6 then (
      rec_23 v1 v2 v3 v4 (v5 + 1) σ
    ) else (
      if v5 = 1 then (
        f_X11_ring_57 (f_X11_ring_33 rec_23 fu) v1 v2 v3 v4 v5 v6 0 σ
      ) else (
        grd (inb v6 24 && true) <|
        f_X11_ring_57 (f_X11_ring_33 rec_23 fu) v1 v2 v3 v4 v5 v6 (σ.1 71 (ix v6)) σ
      )
    )
set_option maxRecDepth 100000 in
set_option maxHeartbeats 4000000 in
theorem ok_X11_ring_33 {κ : Kd}   {rec_23 : Int32 → Int32 → Int32 → Int32 → Int32 → Sg → Option (Int32 × Sg)} (hrec_23 : ∀ (v1 : Int32) (v2 : Int32) (v3 : Int32) (v4 : Int32) (v5 : Int32) (σ : Sg) (q : (Int32 × Sg)), rec_23 v1 v2 v3 v4 v5 σ = some q → AW κ pX11_ring 2 (some (aI q.1), q.2) 23 [some (aR 11 0 0), some (aI v1), some (aI v2), some (aI v3), some (aI v4), some (aI v5), none, none] [] σ) : ∀ (fu : Nat) (v1 : Int32) (v2 : Int32) (v3 : Int32) (v4 : Int32) (v5 : Int32) (v6 : Int32) (σ : Sg) (q : (Int32 × Sg)), f_X11_ring_33 rec_23 fu v1 v2 v3 v4 v5 v6 σ = some q → AW κ pX11_ring 2 (some (aI q.1), q.2) 33 [some (aR 11 0 0), some (aI v1), some (aI v2), some (aI v3), some (aI v4), some (aI v5), some (aI v6), none] [] σ := by
  intro fu
  induction fu with
  | zero =>
    intro v1 v2 v3 v4 v5 v6 σ q h
    unfold f_X11_ring_33 at h
    cases h
  | succ fu ih =>
    intro v1 v2 v3 v4 v5 v6 σ q h
    unfold f_X11_ring_33 at h
    refine aw_seq [(.iload 6, 2, ax0), (.bipush 24, 2, (axI 24))] (pc' := 37) (L' := [some (aR 11 0 0), some (aI v1), some (aI v2), some (aI v3), some (aI v4), some (aI v5), some (aI v6), none]) (stk' := [aI 24, aI v6]) (σ' := σ) (g := []) (by decide +kernel) rfl rfl ?_
    refine aw_icmp_ge (off := 77) (tgt := 114) (by decide +kernel) (by decide) (fun c1 => ?_) (fun c1 => ?_)
    · rw [if_pos c1] at h
      refine aw_seq [(.iinc 5 1, 3, (axI 1))] (pc' := 117) (L' := [some (aR 11 0 0), some (aI v1), some (aI v2), some (aI v3), some (aI v4), some (aI (v5 + 1)), some (aI v6), none]) (stk' := []) (σ' := σ) (g := []) (by decide +kernel) rfl rfl ?_
      refine aw_goto (off := (-94)) (tgt := 23) (by decide +kernel) (by decide) ?_
      refine aw_forget (L' := [some (aR 11 0 0), some (aI v1), some (aI v2), some (aI v3), some (aI v4), some (aI (v5 + 1)), none, none]) (lsub_s (lsub_s (lsub_s (lsub_s (lsub_s (lsub_s (lsub_n (lsub_n (lsub_0))))))))) ?_
      exact hrec_23 v1 v2 v3 v4 (v5 + 1) σ _ h
    · rw [if_neg c1] at h
      refine aw_seq [(.iload 5, 2, ax0), (.iconst 1, 1, (axI 1))] (pc' := 43) (L' := [some (aR 11 0 0), some (aI v1), some (aI v2), some (aI v3), some (aI v4), some (aI v5), some (aI v6), none]) (stk' := [aI 1, aI v5]) (σ' := σ) (g := []) (by decide +kernel) rfl rfl ?_
      refine aw_icmp_ne (off := 7) (tgt := 50) (by decide +kernel) (by decide) (fun c1 => ?_) (fun c1 => ?_)
      · rw [if_neg c1] at h
        obtain ⟨hg, h⟩ := grd_some h
        refine aw_seq [(.aload_n 0, 1, ax0), (.getfield 65, 3, (axF 11 9 (2, 71, 13, some 24))), (.iload 6, 2, ax0), (.iaload, 1, ax0)] (pc' := 57) (L' := [some (aR 11 0 0), some (aI v1), some (aI v2), some (aI v3), some (aI v4), some (aI v5), some (aI v6), none]) (stk' := [aI (σ.1 71 (ix v6))]) (σ' := σ) (g := [inb v6 24]) (by decide +kernel) rfl hg ?_
        refine aw_forget (L' := [some (aR 11 0 0), some (aI v1), some (aI v2), some (aI v3), some (aI v4), some (aI v5), some (aI v6), none]) (lsub_s (lsub_s (lsub_s (lsub_s (lsub_s (lsub_s (lsub_s (lsub_n (lsub_0))))))))) ?_
        exact ok_X11_ring_57 ih v1 v2 v3 v4 v5 v6 (σ.1 71 (ix v6)) σ _ h
      · rw [if_pos c1] at h
        refine aw_seq [(.iconst 0, 1, (axI 0))] (pc' := 47) (L' := [some (aR 11 0 0), some (aI v1), some (aI v2), some (aI v3), some (aI v4), some (aI v5), some (aI v6), none]) (stk' := [aI 0]) (σ' := σ) (g := []) (by decide +kernel) rfl rfl ?_
        refine aw_goto (off := 10) (tgt := 57) (by decide +kernel) (by decide) ?_
        refine aw_forget (L' := [some (aR 11 0 0), some (aI v1), some (aI v2), some (aI v3), some (aI v4), some (aI v5), some (aI v6), none]) (lsub_s (lsub_s (lsub_s (lsub_s (lsub_s (lsub_s (lsub_s (lsub_n (lsub_0))))))))) ?_
        exact ok_X11_ring_57 ih v1 v2 v3 v4 v5 v6 0 σ _ h
def f_X11_ring_139   (s0 : Int32) (σ : Sg) : Option (Int32 × Sg) :=
  some (s0, σ)
set_option maxRecDepth 100000 in
set_option maxHeartbeats 4000000 in
theorem ok_X11_ring_139 {κ : Kd}    : ∀ (s0 : Int32) (σ : Sg) (q : (Int32 × Sg)), f_X11_ring_139 s0 σ = some q → AW κ pX11_ring 2 (some (aI q.1), q.2) 139 [none, none, none, none, none, none, none, none] [aI s0] σ := by
  intro s0 σ q h
  unfold f_X11_ring_139 at h
  cases h
  exact aw_iret rfl (by decide +kernel)
def f_X11_ring_23   : Nat → Int32 → Int32 → Int32 → Int32 → Int32 → Sg → Option (Int32 × Sg)
  | 0, _, _, _, _, _, _ => none
  | fu + 1, v1, v2, v3, v4, v5, σ =>
    if 24 ≤ v5 then (
      if v1 = 0 then (
        f_X11_ring_139 v2 σ
      ) else (
        if v1 = 1 then (
          f_X11_ring_139 v3 σ
        ) else (
          f_X11_ring_139 v4 σ
        )
      )
    ) else (
      f_X11_ring_33 (f_X11_ring_23 fu) FU v1 v2 v3 v4 v5 0 σ
    )
set_option maxRecDepth 100000 in
set_option maxHeartbeats 4000000 in
theorem ok_X11_ring_23 {κ : Kd}    : ∀ (fu : Nat) (v1 : Int32) (v2 : Int32) (v3 : Int32) (v4 : Int32) (v5 : Int32) (σ : Sg) (q : (Int32 × Sg)), f_X11_ring_23 fu v1 v2 v3 v4 v5 σ = some q → AW κ pX11_ring 2 (some (aI q.1), q.2) 23 [some (aR 11 0 0), some (aI v1), some (aI v2), some (aI v3), some (aI v4), some (aI v5), none, none] [] σ := by
  intro fu
  induction fu with
  | zero =>
    intro v1 v2 v3 v4 v5 σ q h
    unfold f_X11_ring_23 at h
    cases h
  | succ fu ih =>
    intro v1 v2 v3 v4 v5 σ q h
    unfold f_X11_ring_23 at h
    refine aw_seq [(.iload 5, 2, ax0), (.bipush 24, 2, (axI 24))] (pc' := 27) (L' := [some (aR 11 0 0), some (aI v1), some (aI v2), some (aI v3), some (aI v4), some (aI v5), none, none]) (stk' := [aI 24, aI v5]) (σ' := σ) (g := []) (by decide +kernel) rfl rfl ?_
    refine aw_icmp_ge (off := 93) (tgt := 120) (by decide +kernel) (by decide) (fun c1 => ?_) (fun c1 => ?_)
    · rw [if_pos c1] at h
      refine aw_seq [(.iload_n 1, 1, ax0)] (pc' := 121) (L' := [some (aR 11 0 0), some (aI v1), some (aI v2), some (aI v3), some (aI v4), some (aI v5), none, none]) (stk' := [aI v1]) (σ' := σ) (g := []) (by decide +kernel) rfl rfl ?_
      refine aw_if_ne (off := 7) (tgt := 128) (by decide +kernel) (by decide) (fun c1 => ?_) (fun c1 => ?_)
      · rw [if_neg c1] at h
        refine aw_seq [(.iload_n 1, 1, ax0), (.iconst 1, 1, (axI 1))] (pc' := 130) (L' := [some (aR 11 0 0), some (aI v1), some (aI v2), some (aI v3), some (aI v4), some (aI v5), none, none]) (stk' := [aI 1, aI v1]) (σ' := σ) (g := []) (by decide +kernel) rfl rfl ?_
        refine aw_icmp_ne (off := 7) (tgt := 137) (by decide +kernel) (by decide) (fun c1 => ?_) (fun c1 => ?_)
        · rw [if_neg c1] at h
          refine aw_seq [(.iload 4, 2, ax0)] (pc' := 139) (L' := [some (aR 11 0 0), some (aI v1), some (aI v2), some (aI v3), some (aI v4), some (aI v5), none, none]) (stk' := [aI v4]) (σ' := σ) (g := []) (by decide +kernel) rfl rfl ?_
          refine aw_forget (L' := [none, none, none, none, none, none, none, none]) (lsub_n (lsub_n (lsub_n (lsub_n (lsub_n (lsub_n (lsub_n (lsub_n (lsub_0))))))))) ?_
          exact ok_X11_ring_139 v4 σ _ h
        · rw [if_pos c1] at h
          refine aw_seq [(.iload_n 3, 1, ax0)] (pc' := 134) (L' := [some (aR 11 0 0), some (aI v1), some (aI v2), some (aI v3), some (aI v4), some (aI v5), none, none]) (stk' := [aI v3]) (σ' := σ) (g := []) (by decide +kernel) rfl rfl ?_
          refine aw_goto (off := 5) (tgt := 139) (by decide +kernel) (by decide) ?_
          refine aw_forget (L' := [none, none, none, none, none, none, none, none]) (lsub_n (lsub_n (lsub_n (lsub_n (lsub_n (lsub_n (lsub_n (lsub_n (lsub_0))))))))) ?_
          exact ok_X11_ring_139 v3 σ _ h
      · rw [if_pos c1] at h
        refine aw_seq [(.iload_n 2, 1, ax0)] (pc' := 125) (L' := [some (aR 11 0 0), some (aI v1), some (aI v2), some (aI v3), some (aI v4), some (aI v5), none, none]) (stk' := [aI v2]) (σ' := σ) (g := []) (by decide +kernel) rfl rfl ?_
        refine aw_goto (off := 14) (tgt := 139) (by decide +kernel) (by decide) ?_
        refine aw_forget (L' := [none, none, none, none, none, none, none, none]) (lsub_n (lsub_n (lsub_n (lsub_n (lsub_n (lsub_n (lsub_n (lsub_n (lsub_0))))))))) ?_
        exact ok_X11_ring_139 v2 σ _ h
    · rw [if_neg c1] at h
      refine aw_seq [(.iconst 0, 1, (axI 0)), (.istore 6, 2, ax0)] (pc' := 33) (L' := [some (aR 11 0 0), some (aI v1), some (aI v2), some (aI v3), some (aI v4), some (aI v5), some (aI 0), none]) (stk' := []) (σ' := σ) (g := []) (by decide +kernel) rfl rfl ?_
      refine aw_forget (L' := [some (aR 11 0 0), some (aI v1), some (aI v2), some (aI v3), some (aI v4), some (aI v5), some (aI 0), none]) (lsub_s (lsub_s (lsub_s (lsub_s (lsub_s (lsub_s (lsub_s (lsub_n (lsub_0))))))))) ?_
      exact ok_X11_ring_33 ih FU v1 v2 v3 v4 v5 0 σ _ h
def f_X11_ring (v1 : Int32) (σ : Sg) : Option (Int32 × Sg) :=
  bnd (f_X11_within v1 0 2 σ) fun r5 σ4 =>
  if r5 = 0 then (
    some ((-10000), σ4)
  ) else (
    f_X11_ring_23 FU v1 0 0 0 1 σ4
  )
set_option maxRecDepth 100000 in
set_option maxHeartbeats 4000000 in
theorem ok_X11_ring {κ : Kd} {v1 : Int32} {σ : Sg} {q : (Int32 × Sg)} (h : f_X11_ring v1 σ = some q) : AMet κ pX11_ring 2 [aR 11 0 0, aI v1] σ (some (aI q.1), q.2) := by
  unfold f_X11_ring at h
  refine amet_of okp_X11_ring [(false, aR 11 0 0), (false, aI v1)] (List.forall_mem_cons.mpr ⟨rfl, List.forall_mem_cons.mpr ⟨rfl, (fun _ hn => absurd hn List.not_mem_nil)⟩⟩) 6 rfl ?_
  show AW κ pX11_ring 2 (some (aI q.1), q.2) 0 [some (aR 11 0 0), some (aI v1), none, none, none, none, none, none] [] σ
  refine aw_seq [(.iload_n 1, 1, ax0), (.iconst 0, 1, (axI 0)), (.iconst 2, 1, (axI 2))] (pc' := 3) (L' := [some (aR 11 0 0), some (aI v1), none, none, none, none, none, none]) (stk' := [aI 2, aI 0, aI v1]) (σ' := σ) (g := []) (by decide +kernel) rfl rfl ?_
  obtain ⟨r5, σ4, h3, h⟩ := bnd_some h
  refine aw_cS (P' := pX11_within) (idx := 79) (d' := 1) [aI v1, aI 0, aI 2] [] (ov := (some (aI r5))) (stk2 := [aI r5]) okp_X11_within (by decide +kernel) ml_RX11_79 tok_X11_within nar_X11_within (by decide) rfl (Nat.le_of_ble_eq_true rfl) (ok_X11_within h3) rfl ?_
  refine aw_if_ne (off := 7) (tgt := 13) (by decide +kernel) (by decide) (fun c1 => ?_) (fun c1 => ?_)
  · rw [if_neg c1] at h
    refine aw_seq [(.iconst 0, 1, (axI 0)), (.istore_n 2, 1, ax0), (.iconst 0, 1, (axI 0)), (.istore_n 3, 1, ax0), (.iconst 0, 1, (axI 0)), (.istore 4, 2, ax0), (.iconst 1, 1, (axI 1)), (.istore 5, 2, ax0)] (pc' := 23) (L' := [some (aR 11 0 0), some (aI v1), some (aI 0), some (aI 0), some (aI 0), some (aI 1), none, none]) (stk' := []) (σ' := σ4) (g := []) (by decide +kernel) rfl rfl ?_
    refine aw_forget (L' := [some (aR 11 0 0), some (aI v1), some (aI 0), some (aI 0), some (aI 0), some (aI 1), none, none]) (lsub_s (lsub_s (lsub_s (lsub_s (lsub_s (lsub_s (lsub_n (lsub_n (lsub_0))))))))) ?_
    exact ok_X11_ring_23 FU v1 0 0 0 1 σ4 _ h
  · rw [if_pos c1] at h
    refine aw_seq [(.sipush (-10000), 3, (axI (-10000)))] (pc' := 12) (L' := [some (aR 11 0 0), some (aI v1), none, none, none, none, none, none]) (stk' := [aI (-10000)]) (σ' := σ4) (g := []) (by decide +kernel) rfl rfl ?_
    cases h
    exact aw_iret rfl (by decide +kernel)
