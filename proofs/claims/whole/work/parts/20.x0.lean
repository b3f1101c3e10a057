/-! printed by wip/whole/gen4.py from the class file: within, settle, house, lay, told, street, putFour, feed, end, fault, by, store, keep, note, set, act, keeps, mayGive, can, tried, light, cover, open, fetch, quench, bell, named -/
def f_X11_within_15   (s0 : Int32) (σ : Sg) : Option (Int32 × Sg) :=
  grd (bz s0) <| some (s0, σ)
set_option maxRecDepth 100000 in
set_option maxHeartbeats 4000000 in
theorem ok_X11_within_15 {κ : Kd}    : ∀ (s0 : Int32) (σ : Sg) (q : (Int32 × Sg)), f_X11_within_15 s0 σ = some q → AW κ pX11_within 1 (some (aI q.1), q.2) 15 [none, none, none] [aI s0] σ := by
  intro s0 σ q h
  unfold f_X11_within_15 at h
  obtain ⟨hg, h⟩ := grd_some h
  cases h
  exact aw_zret rfl hg (by decide +kernel)
def f_X11_within_14    (σ : Sg) : Option (Int32 × Sg) :=
  f_X11_within_15 0 σ
set_option maxRecDepth 100000 in
set_option maxHeartbeats 4000000 in
theorem ok_X11_within_14 {κ : Kd}    : ∀  (σ : Sg) (q : (Int32 × Sg)), f_X11_within_14  σ = some q → AW κ pX11_within 1 (some (aI q.1), q.2) 14 [none, none, none] [] σ := by
  intro  σ q h
  unfold f_X11_within_14 at h
  refine aw_seq [(.iconst 0, 1, (axI 0))] (pc' := 15) (L' := [none, none, none]) (stk' := [aI 0]) (σ' := σ) (g := []) (by decide +kernel) rfl rfl ?_
  refine aw_forget (L' := [none, none, none]) (lsub_n (lsub_n (lsub_n (lsub_0)))) ?_
  exact ok_X11_within_15 0 σ _ h
def f_X11_within (v0 : Int32) (v1 : Int32) (v2 : Int32) (σ : Sg) : Option (Int32 × Sg) :=
  if v0 < v1 then (
    f_X11_within_14 σ
  ) else (
    if v2 < v0 then (
      f_X11_within_14 σ
    ) else (
      f_X11_within_15 1 σ
    )
  )
set_option maxRecDepth 100000 in
set_option maxHeartbeats 4000000 in
theorem ok_X11_within {κ : Kd} {v0 : Int32} {v1 : Int32} {v2 : Int32} {σ : Sg} {q : (Int32 × Sg)} (h : f_X11_within v0 v1 v2 σ = some q) : AMet κ pX11_within 1 [aI v0, aI v1, aI v2] σ (some (aI q.1), q.2) := by
  unfold f_X11_within at h
  refine amet_of okp_X11_within [(false, aI v0), (false, aI v1), (false, aI v2)] (List.forall_mem_cons.mpr ⟨rfl, List.forall_mem_cons.mpr ⟨rfl, List.forall_mem_cons.mpr ⟨rfl, (fun _ hn => absurd hn List.not_mem_nil)⟩⟩⟩) 0 rfl ?_
  show AW κ pX11_within 1 (some (aI q.1), q.2) 0 [some (aI v0), some (aI v1), some (aI v2)] [] σ
  refine aw_seq [(.iload_n 0, 1, ax0), (.iload_n 1, 1, ax0)] (pc' := 2) (L' := [some (aI v0), some (aI v1), some (aI v2)]) (stk' := [aI v1, aI v0]) (σ' := σ) (g := []) (by decide +kernel) rfl rfl ?_
  refine aw_icmp_lt (off := 12) (tgt := 14) (by decide +kernel) (by decide) (fun c1 => ?_) (fun c1 => ?_)
  · rw [if_pos c1] at h
    refine aw_forget (L' := [none, none, none]) (lsub_n (lsub_n (lsub_n (lsub_0)))) ?_
    exact ok_X11_within_14 σ _ h
  · rw [if_neg c1] at h
    refine aw_seq [(.iload_n 0, 1, ax0), (.iload_n 2, 1, ax0)] (pc' := 7) (L' := [some (aI v0), some (aI v1), some (aI v2)]) (stk' := [aI v2, aI v0]) (σ' := σ) (g := []) (by decide +kernel) rfl rfl ?_
    refine aw_icmp_gt (off := 7) (tgt := 14) (by decide +kernel) (by decide) (fun c1 => ?_) (fun c1 => ?_)
    · rw [if_pos c1] at h
      refine aw_forget (L' := [none, none, none]) (lsub_n (lsub_n (lsub_n (lsub_0)))) ?_
      exact ok_X11_within_14 σ _ h
    · rw [if_neg c1] at h
      refine aw_seq [(.iconst 1, 1, (axI 1))] (pc' := 11) (L' := [some (aI v0), some (aI v1), some (aI v2)]) (stk' := [aI 1]) (σ' := σ) (g := []) (by decide +kernel) rfl rfl ?_
      refine aw_goto (off := 4) (tgt := 15) (by decide +kernel) (by decide) ?_
      refine aw_forget (L' := [none, none, none]) (lsub_n (lsub_n (lsub_n (lsub_0)))) ?_
      exact ok_X11_within_15 1 σ _ h
def f_X8_settle_30 (t : Nat)   (σ : Sg) : Option (Int32 × Sg) :=
  some ((-1), σ)
set_option maxRecDepth 100000 in
set_option maxHeartbeats 4000000 in
theorem ok_X8_settle_30 {κ : Kd} {t : Nat}   : ∀  (σ : Sg) (q : (Int32 × Sg)), f_X8_settle_30 t  σ = some q → AW κ pX8_settle 2 (some (aI q.1), q.2) 30 [none, none, none] [] σ := by
  intro  σ q h
  unfold f_X8_settle_30 at h
  refine aw_seq [(.iconst (-1), 1, (axI (-1)))] (pc' := 31) (L' := [none, none, none]) (stk' := [aI (-1)]) (σ' := σ) (g := []) (by decide +kernel) rfl rfl ?_
  cases h
  exact aw_iret rfl (by decide +kernel)
def f_X8_settle (t : Nat) (v1 : Int32) (v2 : Int32) (σ : Sg) : Option (Int32 × Sg) :=
  bnd (f_X11_within v1 0 9 σ) fun r3 σ2 =>
  if r3 = 0 then (
    f_X8_settle_30 t σ2
  ) else (
    bnd (f_X11_within v2 0 9999 σ2) fun r6 σ5 =>
    if r6 = 0 then (
      f_X8_settle_30 t σ5
    ) else (
      if (σ5.1 t 0) < 8 then (
        grd (inb (σ5.1 t 0) 8 && true) <|
        ltσ (wI σ5 (t + 1) (ix (σ5.1 t 0)) v1) fun σ7 =>
        grd (inb (σ7.1 t 0) 8 && true) <|
        ltσ (wI σ7 (t + 2) (ix (σ7.1 t 0)) v2) fun σ9 =>
        grd (inb (σ9.1 t 0) 8 && true) <|
        ltσ (wI σ9 (t + 3) (ix (σ9.1 t 0)) 0) fun σ11 =>
        grd (inb (σ11.1 t 0) 8 && true) <|
        ltσ (wI σ11 (t + 4) (ix (σ11.1 t 0)) 0) fun σ13 =>
        ltσ (wI σ13 t 0 ((σ13.1 t 0) + 1)) fun σ15 =>
        some (((σ15.1 t 0) - 1), σ15)
      ) else (
        f_X8_settle_30 t σ5
      )
    )
  )
set_option maxRecDepth 100000 in
set_option maxHeartbeats 4000000 in
theorem ok_X8_settle {κ : Kd} {t : Nat} {v1 : Int32} {v2 : Int32} {σ : Sg} {q : (Int32 × Sg)} (h : f_X8_settle t v1 v2 σ = some q) : AMet κ pX8_settle 2 [aR 8 0 t, aI v1, aI v2] σ (some (aI q.1), q.2) := by
  unfold f_X8_settle at h
  refine amet_of okp_X8_settle [(false, aR 8 0 t), (false, aI v1), (false, aI v2)] (List.forall_mem_cons.mpr ⟨rfl, List.forall_mem_cons.mpr ⟨rfl, List.forall_mem_cons.mpr ⟨rfl, (fun _ hn => absurd hn List.not_mem_nil)⟩⟩⟩) 0 rfl ?_
  show AW κ pX8_settle 2 (some (aI q.1), q.2) 0 [some (aR 8 0 t), some (aI v1), some (aI v2)] [] σ
  refine aw_seq [(.iload_n 1, 1, ax0), (.iconst 0, 1, (axI 0)), (.bipush 9, 2, (axI 9))] (pc' := 4) (L' := [some (aR 8 0 t), some (aI v1), some (aI v2)]) (stk' := [aI 9, aI 0, aI v1]) (σ' := σ) (g := []) (by decide +kernel) rfl rfl ?_
  obtain ⟨r3, σ2, h1, h⟩ := bnd_some h
  refine aw_cSN (P' := pX11_within) (idx := 58) (d' := 1) [aI v1, aI 0, aI 9] [] (ov := (some (aI r3))) (stk2 := [aI r3]) okp_X11_within (by decide +kernel) ml_RX8_58 tok_X11_within nar_X11_within (by decide) rfl (Nat.le_of_ble_eq_true rfl) (ok_X11_within h1) rfl ?_
  refine aw_if_eq (off := 23) (tgt := 30) (by decide +kernel) (by decide) (fun c1 => ?_) (fun c1 => ?_)
  · rw [if_pos c1] at h
    refine aw_forget (L' := [none, none, none]) (lsub_n (lsub_n (lsub_n (lsub_0)))) ?_
    exact ok_X8_settle_30 σ2 _ h
  · rw [if_neg c1] at h
    refine aw_seq [(.iload_n 2, 1, ax0), (.iconst 0, 1, (axI 0)), (.sipush 9999, 3, (axI 9999))] (pc' := 15) (L' := [some (aR 8 0 t), some (aI v1), some (aI v2)]) (stk' := [aI 9999, aI 0, aI v2]) (σ' := σ2) (g := []) (by decide +kernel) rfl rfl ?_
    obtain ⟨r6, σ5, h4, h⟩ := bnd_some h
    refine aw_cSN (P' := pX11_within) (idx := 58) (d' := 1) [aI v2, aI 0, aI 9999] [] (ov := (some (aI r6))) (stk2 := [aI r6]) okp_X11_within (by decide +kernel) ml_RX8_58 tok_X11_within nar_X11_within (by decide) rfl (Nat.le_of_ble_eq_true rfl) (ok_X11_within h4) rfl ?_
    refine aw_if_eq (off := 12) (tgt := 30) (by decide +kernel) (by decide) (fun c1 => ?_) (fun c1 => ?_)
    · rw [if_pos c1] at h
      refine aw_forget (L' := [none, none, none]) (lsub_n (lsub_n (lsub_n (lsub_0)))) ?_
      exact ok_X8_settle_30 σ5 _ h
    · rw [if_neg c1] at h
      refine aw_seq [(.aload_n 0, 1, ax0), (.getfield 31, 3, (axF 8 0 (0, 0, 0, none))), (.bipush 8, 2, (axI 8))] (pc' := 27) (L' := [some (aR 8 0 t), some (aI v1), some (aI v2)]) (stk' := [aI 8, aI (σ5.1 t 0)]) (σ' := σ5) (g := []) (by decide +kernel) rfl rfl ?_
      refine aw_icmp_lt (off := 5) (tgt := 32) (by decide +kernel) (by decide) (fun c1 => ?_) (fun c1 => ?_)
      · rw [if_pos c1] at h
        obtain ⟨hg, h⟩ := grd_some h
        obtain ⟨σ7, e8, h⟩ := ltσ_some h
        refine aw_seq [(.aload_n 0, 1, ax0), (.getfield 11, 3, (axF 8 1 (2, 1, 13, some 8))), (.aload_n 0, 1, ax0), (.getfield 31, 3, (axF 8 0 (0, 0, 0, none))), (.iload_n 1, 1, ax0), (.iastore, 1, ax0)] (pc' := 42) (L' := [some (aR 8 0 t), some (aI v1), some (aI v2)]) (stk' := []) (σ' := σ7) (g := [inb (σ5.1 t 0) 8]) (by decide +kernel) (by rw [e8]; rfl) hg ?_
        obtain ⟨hg, h⟩ := grd_some h
        obtain ⟨σ9, e10, h⟩ := ltσ_some h
        refine aw_seq [(.aload_n 0, 1, ax0), (.getfield 15, 3, (axF 8 2 (2, 2, 13, some 8))), (.aload_n 0, 1, ax0), (.getfield 31, 3, (axF 8 0 (0, 0, 0, none))), (.iload_n 2, 1, ax0), (.iastore, 1, ax0)] (pc' := 52) (L' := [some (aR 8 0 t), some (aI v1), some (aI v2)]) (stk' := []) (σ' := σ9) (g := [inb (σ7.1 t 0) 8]) (by decide +kernel) (by rw [e10]; rfl) hg ?_
        obtain ⟨hg, h⟩ := grd_some h
        obtain ⟨σ11, e12, h⟩ := ltσ_some h
        refine aw_seq [(.aload_n 0, 1, ax0), (.getfield 18, 3, (axF 8 3 (2, 3, 13, some 8))), (.aload_n 0, 1, ax0), (.getfield 31, 3, (axF 8 0 (0, 0, 0, none))), (.iconst 0, 1, (axI 0)), (.iastore, 1, ax0)] (pc' := 62) (L' := [some (aR 8 0 t), some (aI v1), some (aI v2)]) (stk' := []) (σ' := σ11) (g := [inb (σ9.1 t 0) 8]) (by decide +kernel) (by rw [e12]; rfl) hg ?_
        obtain ⟨hg, h⟩ := grd_some h
        obtain ⟨σ13, e14, h⟩ := ltσ_some h
        refine aw_seq [(.aload_n 0, 1, ax0), (.getfield 21, 3, (axF 8 4 (2, 4, 13, some 8))), (.aload_n 0, 1, ax0), (.getfield 31, 3, (axF 8 0 (0, 0, 0, none))), (.iconst 0, 1, (axI 0)), (.iastore, 1, ax0)] (pc' := 72) (L' := [some (aR 8 0 t), some (aI v1), some (aI v2)]) (stk' := []) (σ' := σ13) (g := [inb (σ11.1 t 0) 8]) (by decide +kernel) (by rw [e14]; rfl) hg ?_
        obtain ⟨σ15, e16, h⟩ := ltσ_some h
        refine aw_seq [(.aload_n 0, 1, ax0), (.dup, 1, ax0), (.getfield 31, 3, (axF 8 0 (0, 0, 0, none))), (.iconst 1, 1, (axI 1)), (.iadd, 1, ax0), (.putfield 31, 3, (axF 8 0 (0, 0, 0, none)))] (pc' := 82) (L' := [some (aR 8 0 t), some (aI v1), some (aI v2)]) (stk' := []) (σ' := σ15) (g := []) (by decide +kernel) (by rw [e16]; rfl) rfl ?_
        refine aw_seq [(.aload_n 0, 1, ax0), (.getfield 31, 3, (axF 8 0 (0, 0, 0, none))), (.iconst 1, 1, (axI 1)), (.isub, 1, ax0)] (pc' := 88) (L' := [some (aR 8 0 t), some (aI v1), some (aI v2)]) (stk' := [aI ((σ15.1 t 0) - 1)]) (σ' := σ15) (g := []) (by decide +kernel) rfl rfl ?_
        cases h
        exact aw_iret rfl (by decide +kernel)
      · rw [if_neg c1] at h
        refine aw_forget (L' := [none, none, none]) (lsub_n (lsub_n (lsub_n (lsub_0)))) ?_
        exact ok_X8_settle_30 σ5 _ h
def f_X11_house (v1 : Int32) (v2 : Int32) (σ : Sg) : Option (Int32 × Sg) :=
  bnd (f_X8_settle 2 v1 v2 σ) fun r3 σ2 =>
  some (r3, σ2)
set_option maxRecDepth 100000 in
set_option maxHeartbeats 4000000 in
theorem ok_X11_house {κ : Kd} {v1 : Int32} {v2 : Int32} {σ : Sg} {q : (Int32 × Sg)} (h : f_X11_house v1 v2 σ = some q) : AMet κ pX11_house 3 [aR 11 0 0, aI v1, aI v2] σ (some (aI q.1), q.2) := by
  unfold f_X11_house at h
  refine amet_of okp_X11_house [(false, aR 11 0 0), (false, aI v1), (false, aI v2)] (List.forall_mem_cons.mpr ⟨rfl, List.forall_mem_cons.mpr ⟨rfl, List.forall_mem_cons.mpr ⟨rfl, (fun _ hn => absurd hn List.not_mem_nil)⟩⟩⟩) 0 rfl ?_
  show AW κ pX11_house 3 (some (aI q.1), q.2) 0 [some (aR 11 0 0), some (aI v1), some (aI v2)] [] σ
  refine aw_seq [(.aload_n 0, 1, ax0), (.getfield 10, 3, (axF 11 0 (2, 1, 10, some 0))), (.getfield 68, 3, (axF 10 0 (2, 1, 8, some 0))), (.iload_n 1, 1, ax0), (.iload_n 2, 1, ax0)] (pc' := 9) (L' := [some (aR 11 0 0), some (aI v1), some (aI v2)]) (stk' := [aI v2, aI v1, aR 8 0 2]) (σ' := σ) (g := []) (by decide +kernel) rfl rfl ?_
  obtain ⟨r3, σ2, h1, h⟩ := bnd_some h
  refine aw_cV (P' := pX8_settle) (idx := 71) (d' := 2) (c := 8) (n := 0) (k := 2) [aI v1, aI v2] [] (ov := (some (aI r3))) (stk2 := [aI r3]) okp_X8_settle (by decide +kernel) ml_RX11_71 vok_X8_settle (by decide) rfl nar_X8_settle (by decide) rfl (Nat.le_of_ble_eq_true rfl) (ok_X8_settle h1) rfl ?_
  cases h
  exact aw_iret rfl (by decide +kernel)
def f_X5_lay_82 (s : Nat)  (s1 : Int32) (s2 : Int32) (s3 : Int32) (σ : Sg) : Option Sg :=
  grd (inb s1 8 && true) <|
  ltσ (wI σ (s + 2) (ix s1) (s2 ||| s3)) fun σ1 =>
  some σ1
set_option maxRecDepth 100000 in
set_option maxHeartbeats 4000000 in
theorem ok_X5_lay_82 {κ : Kd} {s : Nat}   : ∀ (s1 : Int32) (s2 : Int32) (s3 : Int32) (σ : Sg) (q : Sg), f_X5_lay_82 s s1 s2 s3 σ = some q → AW κ pX5_lay 1 (none, q) 82 [none, none, none, none] [aI s3, aI s2, aI s1, aR 13 8 (s + 2)] σ := by
  intro s1 s2 s3 σ q h
  unfold f_X5_lay_82 at h
  obtain ⟨hg, h⟩ := grd_some h
  obtain ⟨σ1, e2, h⟩ := ltσ_some h
  refine aw_seq [(.ior, 1, ax0), (.iastore, 1, ax0)] (pc' := 84) (L' := [none, none, none, none]) (stk' := []) (σ' := σ1) (g := [inb s1 8]) (by decide +kernel) (by rw [e2]; rfl) hg ?_
  cases h
  exact aw_vret rfl (by decide +kernel)
def f_X5_lay_52 (s : Nat)  (v1 : Int32) (v2 : Int32) (v3 : Int32) (s1 : Int32) (s2 : Int32) (s3 : Int32) (σ : Sg) : Option Sg :=
  grd (inb s1 8 && true) <|
  ltσ (wI σ (s + 2) (ix s1) (s2 ||| s3)) fun σ3 =>
  grd (inb v2 8 && true) <|
  if v3 ≤ 0 then (
    f_X5_lay_82 s v2 ((σ3.1 (s + 2) (ix v2)) &&& ((shl 1 v1) ^^^ (-1))) 0 σ3
  ) else (
    f_X5_lay_82 s v2 ((σ3.1 (s + 2) (ix v2)) &&& ((shl 1 v1) ^^^ (-1))) (shl 1 v1) σ3
  )
set_option maxRecDepth 100000 in
set_option maxHeartbeats 4000000 in
theorem ok_X5_lay_52 {κ : Kd} {s : Nat}   : ∀ (v1 : Int32) (v2 : Int32) (v3 : Int32) (s1 : Int32) (s2 : Int32) (s3 : Int32) (σ : Sg) (q : Sg), f_X5_lay_52 s v1 v2 v3 s1 s2 s3 σ = some q → AW κ pX5_lay 1 (none, q) 52 [some (aR 5 0 s), some (aI v1), some (aI v2), some (aI v3)] [aI s3, aI s2, aI s1, aR 13 8 (s + 2)] σ := by
  intro v1 v2 v3 s1 s2 s3 σ q h
  unfold f_X5_lay_52 at h
  obtain ⟨hg, h⟩ := grd_some h
  obtain ⟨σ3, e4, h⟩ := ltσ_some h
  refine aw_seq [(.ior, 1, ax0), (.iastore, 1, ax0)] (pc' := 54) (L' := [some (aR 5 0 s), some (aI v1), some (aI v2), some (aI v3)]) (stk' := []) (σ' := σ3) (g := [inb s1 8]) (by decide +kernel) (by rw [e4]; rfl) hg ?_
  obtain ⟨hg, h⟩ := grd_some h
  refine aw_seq [(.aload_n 0, 1, ax0), (.getfield 15, 3, (axF 5 1 (2, 2, 13, some 8))), (.iload_n 2, 1, ax0), (.aload_n 0, 1, ax0), (.getfield 15, 3, (axF 5 1 (2, 2, 13, some 8))), (.iload_n 2, 1, ax0), (.iaload, 1, ax0), (.iconst 1, 1, (axI 1)), (.iload_n 1, 1, ax0), (.ishl, 1, ax0), (.iconst (-1), 1, (axI (-1))), (.ixor, 1, ax0), (.iand, 1, ax0), (.iload_n 3, 1, ax0)] (pc' := 72) (L' := [some (aR 5 0 s), some (aI v1), some (aI v2), some (aI v3)]) (stk' := [aI v3, aI ((σ3.1 (s + 2) (ix v2)) &&& ((shl 1 v1) ^^^ (-1))), aI v2, aR 13 8 (s + 2)]) (σ' := σ3) (g := [inb v2 8]) (by decide +kernel) rfl hg ?_
  refine aw_if_le (off := 9) (tgt := 81) (by decide +kernel) (by decide) (fun c1 => ?_) (fun c1 => ?_)
  · rw [if_pos c1] at h
    refine aw_seq [(.iconst 0, 1, (axI 0))] (pc' := 82) (L' := [some (aR 5 0 s), some (aI v1), some (aI v2), some (aI v3)]) (stk' := [aI 0, aI ((σ3.1 (s + 2) (ix v2)) &&& ((shl 1 v1) ^^^ (-1))), aI v2, aR 13 8 (s + 2)]) (σ' := σ3) (g := []) (by decide +kernel) rfl rfl ?_
    refine aw_forget (L' := [none, none, none, none]) (lsub_n (lsub_n (lsub_n (lsub_n (lsub_0))))) ?_
    exact ok_X5_lay_82 v2 ((σ3.1 (s + 2) (ix v2)) &&& ((shl 1 v1) ^^^ (-1))) 0 σ3 _ h
  · rw [if_neg c1] at h
    refine aw_seq [(.iconst 1, 1, (axI 1)), (.iload_n 1, 1, ax0), (.ishl, 1, ax0)] (pc' := 78) (L' := [some (aR 5 0 s), some (aI v1), some (aI v2), some (aI v3)]) (stk' := [aI (shl 1 v1), aI ((σ3.1 (s + 2) (ix v2)) &&& ((shl 1 v1) ^^^ (-1))), aI v2, aR 13 8 (s + 2)]) (σ' := σ3) (g := []) (by decide +kernel) rfl rfl ?_
    refine aw_goto (off := 4) (tgt := 82) (by decide +kernel) (by decide) ?_
    refine aw_forget (L' := [none, none, none, none]) (lsub_n (lsub_n (lsub_n (lsub_n (lsub_0))))) ?_
    exact ok_X5_lay_82 v2 ((σ3.1 (s + 2) (ix v2)) &&& ((shl 1 v1) ^^^ (-1))) (shl 1 v1) σ3 _ h
def f_X5_lay (s : Nat) (v1 : Int32) (v2 : Int32) (v3 : Int32) (σ : Sg) : Option Sg :=
  grd (inb ((v1 * 8) + v2) 64 && true) <|
  ltσ (wI σ (s + 1) (ix ((v1 * 8) + v2)) v3) fun σ5 =>
  grd (inb ((v2 * 8) + v1) 64 && true) <|
  ltσ (wI σ5 (s + 1) (ix ((v2 * 8) + v1)) v3) fun σ7 =>
  grd (inb v1 8 && true) <|
  if v3 ≤ 0 then (
    f_X5_lay_52 s v1 v2 v3 v1 ((σ7.1 (s + 2) (ix v1)) &&& ((shl 1 v2) ^^^ (-1))) 0 σ7
  ) else (
    f_X5_lay_52 s v1 v2 v3 v1 ((σ7.1 (s + 2) (ix v1)) &&& ((shl 1 v2) ^^^ (-1))) (shl 1 v2) σ7
  )
set_option maxRecDepth 100000 in
set_option maxHeartbeats 4000000 in
theorem ok_X5_lay {κ : Kd} {s : Nat} {v1 : Int32} {v2 : Int32} {v3 : Int32} {σ : Sg} {q : Sg} (h : f_X5_lay s v1 v2 v3 σ = some q) : AMet κ pX5_lay 1 [aR 5 0 s, aI v1, aI v2, aI v3] σ (none, q) := by
  unfold f_X5_lay at h
  refine amet_of okp_X5_lay [(false, aR 5 0 s), (false, aI v1), (false, aI v2), (false, aI v3)] (List.forall_mem_cons.mpr ⟨rfl, List.forall_mem_cons.mpr ⟨rfl, List.forall_mem_cons.mpr ⟨rfl, List.forall_mem_cons.mpr ⟨rfl, (fun _ hn => absurd hn List.not_mem_nil)⟩⟩⟩⟩) 0 rfl ?_
  show AW κ pX5_lay 1 (none, q) 0 [some (aR 5 0 s), some (aI v1), some (aI v2), some (aI v3)] [] σ
  obtain ⟨hg, h⟩ := grd_some h
  obtain ⟨σ5, e6, h⟩ := ltσ_some h
  refine aw_seq [(.aload_n 0, 1, ax0), (.getfield 9, 3, (axF 5 0 (2, 1, 13, some 64))), (.iload_n 1, 1, ax0), (.bipush 8, 2, (axI 8)), (.imul, 1, ax0), (.iload_n 2, 1, ax0), (.iadd, 1, ax0), (.iload_n 3, 1, ax0), (.iastore, 1, ax0)] (pc' := 12) (L' := [some (aR 5 0 s), some (aI v1), some (aI v2), some (aI v3)]) (stk' := []) (σ' := σ5) (g := [inb ((v1 * 8) + v2) 64]) (by decide +kernel) (by rw [e6]; rfl) hg ?_
  obtain ⟨hg, h⟩ := grd_some h
  obtain ⟨σ7, e8, h⟩ := ltσ_some h
  refine aw_seq [(.aload_n 0, 1, ax0), (.getfield 9, 3, (axF 5 0 (2, 1, 13, some 64))), (.iload_n 2, 1, ax0), (.bipush 8, 2, (axI 8)), (.imul, 1, ax0), (.iload_n 1, 1, ax0), (.iadd, 1, ax0), (.iload_n 3, 1, ax0), (.iastore, 1, ax0)] (pc' := 24) (L' := [some (aR 5 0 s), some (aI v1), some (aI v2), some (aI v3)]) (stk' := []) (σ' := σ7) (g := [inb ((v2 * 8) + v1) 64]) (by decide +kernel) (by rw [e8]; rfl) hg ?_
  obtain ⟨hg, h⟩ := grd_some h
  refine aw_seq [(.aload_n 0, 1, ax0), (.getfield 15, 3, (axF 5 1 (2, 2, 13, some 8))), (.iload_n 1, 1, ax0), (.aload_n 0, 1, ax0), (.getfield 15, 3, (axF 5 1 (2, 2, 13, some 8))), (.iload_n 1, 1, ax0), (.iaload, 1, ax0), (.iconst 1, 1, (axI 1)), (.iload_n 2, 1, ax0), (.ishl, 1, ax0), (.iconst (-1), 1, (axI (-1))), (.ixor, 1, ax0), (.iand, 1, ax0), (.iload_n 3, 1, ax0)] (pc' := 42) (L' := [some (aR 5 0 s), some (aI v1), some (aI v2), some (aI v3)]) (stk' := [aI v3, aI ((σ7.1 (s + 2) (ix v1)) &&& ((shl 1 v2) ^^^ (-1))), aI v1, aR 13 8 (s + 2)]) (σ' := σ7) (g := [inb v1 8]) (by decide +kernel) rfl hg ?_
  refine aw_if_le (off := 9) (tgt := 51) (by decide +kernel) (by decide) (fun c1 => ?_) (fun c1 => ?_)
  · rw [if_pos c1] at h
    refine aw_seq [(.iconst 0, 1, (axI 0))] (pc' := 52) (L' := [some (aR 5 0 s), some (aI v1), some (aI v2), some (aI v3)]) (stk' := [aI 0, aI ((σ7.1 (s + 2) (ix v1)) &&& ((shl 1 v2) ^^^ (-1))), aI v1, aR 13 8 (s + 2)]) (σ' := σ7) (g := []) (by decide +kernel) rfl rfl ?_
    refine aw_forget (L' := [some (aR 5 0 s), some (aI v1), some (aI v2), some (aI v3)]) (lsub_s (lsub_s (lsub_s (lsub_s (lsub_0))))) ?_
    exact ok_X5_lay_52 v1 v2 v3 v1 ((σ7.1 (s + 2) (ix v1)) &&& ((shl 1 v2) ^^^ (-1))) 0 σ7 _ h
  · rw [if_neg c1] at h
    refine aw_seq [(.iconst 1, 1, (axI 1)), (.iload_n 2, 1, ax0), (.ishl, 1, ax0)] (pc' := 48) (L' := [some (aR 5 0 s), some (aI v1), some (aI v2), some (aI v3)]) (stk' := [aI (shl 1 v2), aI ((σ7.1 (s + 2) (ix v1)) &&& ((shl 1 v2) ^^^ (-1))), aI v1, aR 13 8 (s + 2)]) (σ' := σ7) (g := []) (by decide +kernel) rfl rfl ?_
    refine aw_goto (off := 4) (tgt := 52) (by decide +kernel) (by decide) ?_
    refine aw_forget (L' := [some (aR 5 0 s), some (aI v1), some (aI v2), some (aI v3)]) (lsub_s (lsub_s (lsub_s (lsub_s (lsub_0))))) ?_
    exact ok_X5_lay_52 v1 v2 v3 v1 ((σ7.1 (s + 2) (ix v1)) &&& ((shl 1 v2) ^^^ (-1))) (shl 1 v2) σ7 _ h
def f_X8_told_23 (t : Nat)  (s0 : Int32) (σ : Sg) : Option (Int32 × Sg) :=
  grd (bz s0) <| some (s0, σ)
set_option maxRecDepth 100000 in
set_option maxHeartbeats 4000000 in
theorem ok_X8_told_23 {κ : Kd} {t : Nat}   : ∀ (s0 : Int32) (σ : Sg) (q : (Int32 × Sg)), f_X8_told_23 t s0 σ = some q → AW κ pX8_told 1 (some (aI q.1), q.2) 23 [none, none] [aI s0] σ := by
  intro s0 σ q h
  unfold f_X8_told_23 at h
  obtain ⟨hg, h⟩ := grd_some h
  cases h
  exact aw_zret rfl hg (by decide +kernel)
def f_X8_told_22 (t : Nat)   (σ : Sg) : Option (Int32 × Sg) :=
  f_X8_told_23 t 0 σ
set_option maxRecDepth 100000 in
set_option maxHeartbeats 4000000 in
theorem ok_X8_told_22 {κ : Kd} {t : Nat}   : ∀  (σ : Sg) (q : (Int32 × Sg)), f_X8_told_22 t  σ = some q → AW κ pX8_told 1 (some (aI q.1), q.2) 22 [none, none] [] σ := by
  intro  σ q h
  unfold f_X8_told_22 at h
  refine aw_seq [(.iconst 0, 1, (axI 0))] (pc' := 23) (L' := [none, none]) (stk' := [aI 0]) (σ' := σ) (g := []) (by decide +kernel) rfl rfl ?_
  refine aw_forget (L' := [none, none]) (lsub_n (lsub_n (lsub_0))) ?_
  exact ok_X8_told_23 0 σ _ h
def f_X8_told (t : Nat) (v1 : Int32) (σ : Sg) : Option (Int32 × Sg) :=
  if v1 < 0 then (
    f_X8_told_22 t σ
  ) else (
    if (σ.1 t 0) ≤ v1 then (
      f_X8_told_22 t σ
    ) else (
      if 8 ≤ v1 then (
        f_X8_told_22 t σ
      ) else (
        f_X8_told_23 t 1 σ
      )
    )
  )
set_option maxRecDepth 100000 in
set_option maxHeartbeats 4000000 in
theorem ok_X8_told {κ : Kd} {t : Nat} {v1 : Int32} {σ : Sg} {q : (Int32 × Sg)} (h : f_X8_told t v1 σ = some q) : AMet κ pX8_told 1 [aR 8 0 t, aI v1] σ (some (aI q.1), q.2) := by
  unfold f_X8_told at h
  refine amet_of okp_X8_told [(false, aR 8 0 t), (false, aI v1)] (List.forall_mem_cons.mpr ⟨rfl, List.forall_mem_cons.mpr ⟨rfl, (fun _ hn => absurd hn List.not_mem_nil)⟩⟩) 0 rfl ?_
  show AW κ pX8_told 1 (some (aI q.1), q.2) 0 [some (aR 8 0 t), some (aI v1)] [] σ
  refine aw_seq [(.iload_n 1, 1, ax0)] (pc' := 1) (L' := [some (aR 8 0 t), some (aI v1)]) (stk' := [aI v1]) (σ' := σ) (g := []) (by decide +kernel) rfl rfl ?_
  refine aw_if_lt (off := 21) (tgt := 22) (by decide +kernel) (by decide) (fun c1 => ?_) (fun c1 => ?_)
  · rw [if_pos c1] at h
    refine aw_forget (L' := [none, none]) (lsub_n (lsub_n (lsub_0))) ?_
    exact ok_X8_told_22 σ _ h
  · rw [if_neg c1] at h
    refine aw_seq [(.iload_n 1, 1, ax0), (.aload_n 0, 1, ax0), (.getfield 31, 3, (axF 8 0 (0, 0, 0, none)))] (pc' := 9) (L' := [some (aR 8 0 t), some (aI v1)]) (stk' := [aI (σ.1 t 0), aI v1]) (σ' := σ) (g := []) (by decide +kernel) rfl rfl ?_
    refine aw_icmp_ge (off := 13) (tgt := 22) (by decide +kernel) (by decide) (fun c1 => ?_) (fun c1 => ?_)
    · rw [if_pos c1] at h
      refine aw_forget (L' := [none, none]) (lsub_n (lsub_n (lsub_0))) ?_
      exact ok_X8_told_22 σ _ h
    · rw [if_neg c1] at h
      refine aw_seq [(.iload_n 1, 1, ax0), (.bipush 8, 2, (axI 8))] (pc' := 15) (L' := [some (aR 8 0 t), some (aI v1)]) (stk' := [aI 8, aI v1]) (σ' := σ) (g := []) (by decide +kernel) rfl rfl ?_
      refine aw_icmp_ge (off := 7) (tgt := 22) (by decide +kernel) (by decide) (fun c1 => ?_) (fun c1 => ?_)
      · rw [if_pos c1] at h
        refine aw_forget (L' := [none, none]) (lsub_n (lsub_n (lsub_0))) ?_
        exact ok_X8_told_22 σ _ h
      · rw [if_neg c1] at h
        refine aw_seq [(.iconst 1, 1, (axI 1))] (pc' := 19) (L' := [some (aR 8 0 t), some (aI v1)]) (stk' := [aI 1]) (σ' := σ) (g := []) (by decide +kernel) rfl rfl ?_
        refine aw_goto (off := 4) (tgt := 23) (by decide +kernel) (by decide) ?_
        refine aw_forget (L' := [none, none]) (lsub_n (lsub_n (lsub_0))) ?_
        exact ok_X8_told_23 1 σ _ h
def f_X11_street_43    (σ : Sg) : Option (Int32 × Sg) :=
  some (0, σ)
set_option maxRecDepth 100000 in
set_option maxHeartbeats 4000000 in
theorem ok_X11_street_43 {κ : Kd}    : ∀  (σ : Sg) (q : (Int32 × Sg)), f_X11_street_43  σ = some q → AW κ pX11_street 2 (some (aI q.1), q.2) 43 [none, none, none, none] [] σ := by
  intro  σ q h
  unfold f_X11_street_43 at h
  refine aw_seq [(.iconst 0, 1, (axI 0))] (pc' := 44) (L' := [none, none, none, none]) (stk' := [aI 0]) (σ' := σ) (g := []) (by decide +kernel) rfl rfl ?_
  cases h
  exact aw_zret rfl bz_0 (by decide +kernel)
def f_X11_street (v1 : Int32) (v2 : Int32) (v3 : Int32) (σ : Sg) : Option (Int32 × Sg) :=
  bnd (f_X8_told 2 v1 σ) fun r3 σ2 =>
  if r3 = 0 then (
    f_X11_street_43 σ2
  ) else (
    bnd (f_X8_told 2 v2 σ2) fun r6 σ5 =>
    if r6 = 0 then (
      f_X11_street_43 σ5
    ) else (
      if v1 = v2 then (
        f_X11_street_43 σ5
      ) else (
        bnd (f_X11_within v3 0 99 σ5) fun r9 σ8 =>
        if r9 = 0 then (
          f_X11_street_43 σ8
        ) else (
          bndV (f_X5_lay 8 v1 v2 v3 σ8) fun σ11 =>
          some (1, σ11)
        )
      )
    )
  )
set_option maxRecDepth 100000 in
set_option maxHeartbeats 4000000 in
theorem ok_X11_street {κ : Kd} {v1 : Int32} {v2 : Int32} {v3 : Int32} {σ : Sg} {q : (Int32 × Sg)} (h : f_X11_street v1 v2 v3 σ = some q) : AMet κ pX11_street 2 [aR 11 0 0, aI v1, aI v2, aI v3] σ (some (aI q.1), q.2) := by
  unfold f_X11_street at h
  refine amet_of okp_X11_street [(false, aR 11 0 0), (false, aI v1), (false, aI v2), (false, aI v3)] (List.forall_mem_cons.mpr ⟨rfl, List.forall_mem_cons.mpr ⟨rfl, List.forall_mem_cons.mpr ⟨rfl, List.forall_mem_cons.mpr ⟨rfl, (fun _ hn => absurd hn List.not_mem_nil)⟩⟩⟩⟩) 0 rfl ?_
  show AW κ pX11_street 2 (some (aI q.1), q.2) 0 [some (aR 11 0 0), some (aI v1), some (aI v2), some (aI v3)] [] σ
  refine aw_seq [(.aload_n 0, 1, ax0), (.getfield 10, 3, (axF 11 0 (2, 1, 10, some 0))), (.getfield 68, 3, (axF 10 0 (2, 1, 8, some 0))), (.iload_n 1, 1, ax0)] (pc' := 8) (L' := [some (aR 11 0 0), some (aI v1), some (aI v2), some (aI v3)]) (stk' := [aI v1, aR 8 0 2]) (σ' := σ) (g := []) (by decide +kernel) rfl rfl ?_
  obtain ⟨r3, σ2, h1, h⟩ := bnd_some h
  refine aw_cV (P' := pX8_told) (idx := 75) (d' := 1) (c := 8) (n := 0) (k := 2) [aI v1] [] (ov := (some (aI r3))) (stk2 := [aI r3]) okp_X8_told (by decide +kernel) ml_RX11_75 vok_X8_told (by decide) rfl nar_X8_told (by decide) rfl (Nat.le_of_ble_eq_true rfl) (ok_X8_told h1) rfl ?_
  refine aw_if_eq (off := 32) (tgt := 43) (by decide +kernel) (by decide) (fun c1 => ?_) (fun c1 => ?_)
  · rw [if_pos c1] at h
    refine aw_forget (L' := [none, none, none, none]) (lsub_n (lsub_n (lsub_n (lsub_n (lsub_0))))) ?_
    exact ok_X11_street_43 σ2 _ h
  · rw [if_neg c1] at h
    refine aw_seq [(.aload_n 0, 1, ax0), (.getfield 10, 3, (axF 11 0 (2, 1, 10, some 0))), (.getfield 68, 3, (axF 10 0 (2, 1, 8, some 0))), (.iload_n 2, 1, ax0)] (pc' := 22) (L' := [some (aR 11 0 0), some (aI v1), some (aI v2), some (aI v3)]) (stk' := [aI v2, aR 8 0 2]) (σ' := σ2) (g := []) (by decide +kernel) rfl rfl ?_
    obtain ⟨r6, σ5, h4, h⟩ := bnd_some h
    refine aw_cV (P' := pX8_told) (idx := 75) (d' := 1) (c := 8) (n := 0) (k := 2) [aI v2] [] (ov := (some (aI r6))) (stk2 := [aI r6]) okp_X8_told (by decide +kernel) ml_RX11_75 vok_X8_told (by decide) rfl nar_X8_told (by decide) rfl (Nat.le_of_ble_eq_true rfl) (ok_X8_told h4) rfl ?_
    refine aw_if_eq (off := 18) (tgt := 43) (by decide +kernel) (by decide) (fun c1 => ?_) (fun c1 => ?_)
    · rw [if_pos c1] at h
      refine aw_forget (L' := [none, none, none, none]) (lsub_n (lsub_n (lsub_n (lsub_n (lsub_0))))) ?_
      exact ok_X11_street_43 σ5 _ h
    · rw [if_neg c1] at h
      refine aw_seq [(.iload_n 1, 1, ax0), (.iload_n 2, 1, ax0)] (pc' := 30) (L' := [some (aR 11 0 0), some (aI v1), some (aI v2), some (aI v3)]) (stk' := [aI v2, aI v1]) (σ' := σ5) (g := []) (by decide +kernel) rfl rfl ?_
      refine aw_icmp_eq (off := 13) (tgt := 43) (by decide +kernel) (by decide) (fun c1 => ?_) (fun c1 => ?_)
      · rw [if_pos c1] at h
        refine aw_forget (L' := [none, none, none, none]) (lsub_n (lsub_n (lsub_n (lsub_n (lsub_0))))) ?_
        exact ok_X11_street_43 σ5 _ h
      · rw [if_neg c1] at h
        refine aw_seq [(.iload_n 3, 1, ax0), (.iconst 0, 1, (axI 0)), (.bipush 99, 2, (axI 99))] (pc' := 37) (L' := [some (aR 11 0 0), some (aI v1), some (aI v2), some (aI v3)]) (stk' := [aI 99, aI 0, aI v3]) (σ' := σ5) (g := []) (by decide +kernel) rfl rfl ?_
        obtain ⟨r9, σ8, h7, h⟩ := bnd_some h
        refine aw_cS (P' := pX11_within) (idx := 79) (d' := 1) [aI v3, aI 0, aI 99] [] (ov := (some (aI r9))) (stk2 := [aI r9]) okp_X11_within (by decide +kernel) ml_RX11_79 tok_X11_within nar_X11_within (by decide) rfl (Nat.le_of_ble_eq_true rfl) (ok_X11_within h7) rfl ?_
        refine aw_if_ne (off := 5) (tgt := 45) (by decide +kernel) (by decide) (fun c1 => ?_) (fun c1 => ?_)
        · rw [if_neg c1] at h
          refine aw_seq [(.aload_n 0, 1, ax0), (.getfield 10, 3, (axF 11 0 (2, 1, 10, some 0))), (.getfield 83, 3, (axF 10 1 (2, 7, 5, some 0))), (.iload_n 1, 1, ax0), (.iload_n 2, 1, ax0), (.iload_n 3, 1, ax0)] (pc' := 55) (L' := [some (aR 11 0 0), some (aI v1), some (aI v2), some (aI v3)]) (stk' := [aI v3, aI v2, aI v1, aR 5 0 8]) (σ' := σ8) (g := []) (by decide +kernel) rfl rfl ?_
          obtain ⟨σ11, h10, h⟩ := bndV_some h
          refine aw_cV (P' := pX5_lay) (idx := 87) (d' := 1) (c := 5) (n := 0) (k := 8) [aI v1, aI v2, aI v3] [] (ov := none) (stk2 := []) okp_X5_lay (by decide +kernel) ml_RX11_87 vok_X5_lay (by decide) rfl nar_X5_lay (by decide) rfl (Nat.le_of_ble_eq_true rfl) (ok_X5_lay h10) rfl ?_
          refine aw_seq [(.iconst 1, 1, (axI 1))] (pc' := 59) (L' := [some (aR 11 0 0), some (aI v1), some (aI v2), some (aI v3)]) (stk' := [aI 1]) (σ' := σ11) (g := []) (by decide +kernel) rfl rfl ?_
          cases h
          exact aw_zret rfl bz_1 (by decide +kernel)
        · rw [if_pos c1] at h
          refine aw_forget (L' := [none, none, none, none]) (lsub_n (lsub_n (lsub_n (lsub_n (lsub_0))))) ?_
          exact ok_X11_street_43 σ8 _ h
def f_X11_putFour_43  (rec_3 : Int32 → Int32 → Sg → Option Sg) (v1 : Int32) (v2 : Int32) (σ : Sg) : Option Sg :=
  rec_3 v1 (v2 + (-8)) σ
set_option maxRecDepth 100000 in
set_option maxHeartbeats 4000000 in
theorem ok_X11_putFour_43 {κ : Kd}   {rec_3 : Int32 → Int32 → Sg → Option Sg} (hrec_3 : ∀ (v1 : Int32) (v2 : Int32) (σ : Sg) (q : Sg), rec_3 v1 v2 σ = some q → AW κ pX11_putFour 1 (none, q) 3 [some (aR 11 0 0), some (aI v1), some (aI v2)] [] σ) : ∀ (v1 : Int32) (v2 : Int32) (σ : Sg) (q : Sg), f_X11_putFour_43 rec_3 v1 v2 σ = some q → AW κ pX11_putFour 1 (none, q) 43 [some (aR 11 0 0), some (aI v1), some (aI v2)] [] σ := by
  intro v1 v2 σ q h
  unfold f_X11_putFour_43 at h
  refine aw_seq [(.iinc 2 (-8), 3, (axI (-8)))] (pc' := 46) (L' := [some (aR 11 0 0), some (aI v1), some (aI (v2 + (-8)))]) (stk' := []) (σ' := σ) (g := []) (by decide +kernel) rfl rfl ?_
  refine aw_goto (off := (-43)) (tgt := 3) (by decide +kernel) (by decide) ?_
  refine aw_forget (L' := [some (aR 11 0 0), some (aI v1), some (aI (v2 + (-8)))]) (lsub_s (lsub_s (lsub_s (lsub_0)))) ?_
  exact hrec_3 v1 (v2 + (-8)) σ _ h
def f_X11_putFour_3   : Nat → Int32 → Int32 → Sg → Option Sg
  | 0, _, _, _ => none
  | fu + 1, v1, v2, σ =>
    if v2 < 0 then (
      some σ
    ) else (
      if 300 ≤ (σ.1 0 10) then (
        f_X11_putFour_43 (f_X11_putFour_3 fu) v1 v2 σ
      ) else (
        grd (inb (σ.1 0 10) 300 && true) <|
        ltσ (wI σ 70 (ix (σ.1 0 10)) ((shr v1 v2) &&& 255)) fun σ1 =>
        ltσ (wI σ1 0 10 ((σ1.1 0 10) + 1)) fun σ3 =>
        f_X11_putFour_43 (f_X11_putFour_3 fu) v1 v2 σ3
      )
    )
set_option maxRecDepth 100000 in
set_option maxHeartbeats 4000000 in
theorem ok_X11_putFour_3 {κ : Kd}    : ∀ (fu : Nat) (v1 : Int32) (v2 : Int32) (σ : Sg) (q : Sg), f_X11_putFour_3 fu v1 v2 σ = some q → AW κ pX11_putFour 1 (none, q) 3 [some (aR 11 0 0), some (aI v1), some (aI v2)] [] σ := by
  intro fu
  induction fu with
  | zero =>
    intro v1 v2 σ q h
    unfold f_X11_putFour_3 at h
    cases h
  | succ fu ih =>
    intro v1 v2 σ q h
    unfold f_X11_putFour_3 at h
    refine aw_seq [(.iload_n 2, 1, ax0)] (pc' := 4) (L' := [some (aR 11 0 0), some (aI v1), some (aI v2)]) (stk' := [aI v2]) (σ' := σ) (g := []) (by decide +kernel) rfl rfl ?_
    refine aw_if_lt (off := 45) (tgt := 49) (by decide +kernel) (by decide) (fun c1 => ?_) (fun c1 => ?_)
    · rw [if_pos c1] at h
      cases h
      exact aw_vret rfl (by decide +kernel)
    · rw [if_neg c1] at h
      refine aw_seq [(.aload_n 0, 1, ax0), (.getfield 93, 3, (axF 11 10 (0, 0, 0, none))), (.sipush 300, 3, (axI 300))] (pc' := 14) (L' := [some (aR 11 0 0), some (aI v1), some (aI v2)]) (stk' := [aI 300, aI (σ.1 0 10)]) (σ' := σ) (g := []) (by decide +kernel) rfl rfl ?_
      refine aw_icmp_ge (off := 29) (tgt := 43) (by decide +kernel) (by decide) (fun c1 => ?_) (fun c1 => ?_)
      · rw [if_pos c1] at h
        refine aw_forget (L' := [some (aR 11 0 0), some (aI v1), some (aI v2)]) (lsub_s (lsub_s (lsub_s (lsub_0)))) ?_
        exact ok_X11_putFour_43 ih v1 v2 σ _ h
      · rw [if_neg c1] at h
        obtain ⟨hg, h⟩ := grd_some h
        obtain ⟨σ1, e2, h⟩ := ltσ_some h
        refine aw_seq [(.aload_n 0, 1, ax0), (.getfield 61, 3, (axF 11 8 (2, 70, 13, some 300))), (.aload_n 0, 1, ax0), (.getfield 93, 3, (axF 11 10 (0, 0, 0, none))), (.iload_n 1, 1, ax0), (.iload_n 2, 1, ax0), (.ishr, 1, ax0), (.sipush 255, 3, (axI 255)), (.iand, 1, ax0), (.iastore, 1, ax0)] (pc' := 33) (L' := [some (aR 11 0 0), some (aI v1), some (aI v2)]) (stk' := []) (σ' := σ1) (g := [inb (σ.1 0 10) 300]) (by decide +kernel) (by rw [e2]; rfl) hg ?_
        obtain ⟨σ3, e4, h⟩ := ltσ_some h
        refine aw_seq [(.aload_n 0, 1, ax0), (.dup, 1, ax0), (.getfield 93, 3, (axF 11 10 (0, 0, 0, none))), (.iconst 1, 1, (axI 1)), (.iadd, 1, ax0), (.putfield 93, 3, (axF 11 10 (0, 0, 0, none)))] (pc' := 43) (L' := [some (aR 11 0 0), some (aI v1), some (aI v2)]) (stk' := []) (σ' := σ3) (g := []) (by decide +kernel) (by rw [e4]; rfl) rfl ?_
        refine aw_forget (L' := [some (aR 11 0 0), some (aI v1), some (aI v2)]) (lsub_s (lsub_s (lsub_s (lsub_0)))) ?_
        exact ok_X11_putFour_43 ih v1 v2 σ3 _ h
def f_X11_putFour (v1 : Int32) (σ : Sg) : Option Sg :=
  f_X11_putFour_3 FU v1 24 σ
set_option maxRecDepth 100000 in
set_option maxHeartbeats 4000000 in
theorem ok_X11_putFour {κ : Kd} {v1 : Int32} {σ : Sg} {q : Sg} (h : f_X11_putFour v1 σ = some q) : AMet κ pX11_putFour 1 [aR 11 0 0, aI v1] σ (none, q) := by
  unfold f_X11_putFour at h
  refine amet_of okp_X11_putFour [(false, aR 11 0 0), (false, aI v1)] (List.forall_mem_cons.mpr ⟨rfl, List.forall_mem_cons.mpr ⟨rfl, (fun _ hn => absurd hn List.not_mem_nil)⟩⟩) 1 rfl ?_
  show AW κ pX11_putFour 1 (none, q) 0 [some (aR 11 0 0), some (aI v1), none] [] σ
  refine aw_seq [(.bipush 24, 2, (axI 24)), (.istore_n 2, 1, ax0)] (pc' := 3) (L' := [some (aR 11 0 0), some (aI v1), some (aI 24)]) (stk' := []) (σ' := σ) (g := []) (by decide +kernel) rfl rfl ?_
  refine aw_forget (L' := [some (aR 11 0 0), some (aI v1), some (aI 24)]) (lsub_s (lsub_s (lsub_s (lsub_0)))) ?_
  exact ok_X11_putFour_3 FU v1 24 σ _ h
def f_X11_feed (v1 : Int32) (v2 : Int32) (v3 : Int32) (v4 : Int32) (v5 : Int32) (σ : Sg) : Option (Int32 × Sg) :=
  if (σ.1 0 10) ≤ 280 then (
    bndV (f_X11_putFour v1 σ) fun σ2 =>
    bndV (f_X11_putFour v2 σ2) fun σ4 =>
    bndV (f_X11_putFour v3 σ4) fun σ6 =>
    bndV (f_X11_putFour v4 σ6) fun σ8 =>
    bndV (f_X11_putFour v5 σ8) fun σ10 =>
    some ((σ10.1 0 10), σ10)
  ) else (
    some ((-1), σ)
  )
set_option maxRecDepth 100000 in
set_option maxHeartbeats 4000000 in
theorem ok_X11_feed {κ : Kd} {v1 : Int32} {v2 : Int32} {v3 : Int32} {v4 : Int32} {v5 : Int32} {σ : Sg} {q : (Int32 × Sg)} (h : f_X11_feed v1 v2 v3 v4 v5 σ = some q) : AMet κ pX11_feed 2 [aR 11 0 0, aI v1, aI v2, aI v3, aI v4, aI v5] σ (some (aI q.1), q.2) := by
  unfold f_X11_feed at h
  refine amet_of okp_X11_feed [(false, aR 11 0 0), (false, aI v1), (false, aI v2), (false, aI v3), (false, aI v4), (false, aI v5)] (List.forall_mem_cons.mpr ⟨rfl, List.forall_mem_cons.mpr ⟨rfl, List.forall_mem_cons.mpr ⟨rfl, List.forall_mem_cons.mpr ⟨rfl, List.forall_mem_cons.mpr ⟨rfl, List.forall_mem_cons.mpr ⟨rfl, (fun _ hn => absurd hn List.not_mem_nil)⟩⟩⟩⟩⟩⟩) 0 rfl ?_
  show AW κ pX11_feed 2 (some (aI q.1), q.2) 0 [some (aR 11 0 0), some (aI v1), some (aI v2), some (aI v3), some (aI v4), some (aI v5)] [] σ
  refine aw_seq [(.aload_n 0, 1, ax0), (.getfield 93, 3, (axF 11 10 (0, 0, 0, none))), (.sipush 280, 3, (axI 280))] (pc' := 7) (L' := [some (aR 11 0 0), some (aI v1), some (aI v2), some (aI v3), some (aI v4), some (aI v5)]) (stk' := [aI 280, aI (σ.1 0 10)]) (σ' := σ) (g := []) (by decide +kernel) rfl rfl ?_
  refine aw_icmp_le (off := 5) (tgt := 12) (by decide +kernel) (by decide) (fun c1 => ?_) (fun c1 => ?_)
  · rw [if_pos c1] at h
    refine aw_seq [(.aload_n 0, 1, ax0), (.iload_n 1, 1, ax0)] (pc' := 14) (L' := [some (aR 11 0 0), some (aI v1), some (aI v2), some (aI v3), some (aI v4), some (aI v5)]) (stk' := [aI v1, aR 11 0 0]) (σ' := σ) (g := []) (by decide +kernel) rfl rfl ?_
    obtain ⟨σ2, h1, h⟩ := bndV_some h
    refine aw_cV (P' := pX11_putFour) (idx := 97) (d' := 1) (c := 11) (n := 0) (k := 0) [aI v1] [] (ov := none) (stk2 := []) okp_X11_putFour (by decide +kernel) ml_RX11_97 vok_X11_putFour (by decide) rfl nar_X11_putFour (by decide) rfl (Nat.le_of_ble_eq_true rfl) (ok_X11_putFour h1) rfl ?_
    refine aw_seq [(.aload_n 0, 1, ax0), (.iload_n 2, 1, ax0)] (pc' := 19) (L' := [some (aR 11 0 0), some (aI v1), some (aI v2), some (aI v3), some (aI v4), some (aI v5)]) (stk' := [aI v2, aR 11 0 0]) (σ' := σ2) (g := []) (by decide +kernel) rfl rfl ?_
    obtain ⟨σ4, h3, h⟩ := bndV_some h
    refine aw_cV (P' := pX11_putFour) (idx := 97) (d' := 1) (c := 11) (n := 0) (k := 0) [aI v2] [] (ov := none) (stk2 := []) okp_X11_putFour (by decide +kernel) ml_RX11_97 vok_X11_putFour (by decide) rfl nar_X11_putFour (by decide) rfl (Nat.le_of_ble_eq_true rfl) (ok_X11_putFour h3) rfl ?_
    refine aw_seq [(.aload_n 0, 1, ax0), (.iload_n 3, 1, ax0)] (pc' := 24) (L' := [some (aR 11 0 0), some (aI v1), some (aI v2), some (aI v3), some (aI v4), some (aI v5)]) (stk' := [aI v3, aR 11 0 0]) (σ' := σ4) (g := []) (by decide +kernel) rfl rfl ?_
    obtain ⟨σ6, h5, h⟩ := bndV_some h
    refine aw_cV (P' := pX11_putFour) (idx := 97) (d' := 1) (c := 11) (n := 0) (k := 0) [aI v3] [] (ov := none) (stk2 := []) okp_X11_putFour (by decide +kernel) ml_RX11_97 vok_X11_putFour (by decide) rfl nar_X11_putFour (by decide) rfl (Nat.le_of_ble_eq_true rfl) (ok_X11_putFour h5) rfl ?_
    refine aw_seq [(.aload_n 0, 1, ax0), (.iload 4, 2, ax0)] (pc' := 30) (L' := [some (aR 11 0 0), some (aI v1), some (aI v2), some (aI v3), some (aI v4), some (aI v5)]) (stk' := [aI v4, aR 11 0 0]) (σ' := σ6) (g := []) (by decide +kernel) rfl rfl ?_
    obtain ⟨σ8, h7, h⟩ := bndV_some h
    refine aw_cV (P' := pX11_putFour) (idx := 97) (d' := 1) (c := 11) (n := 0) (k := 0) [aI v4] [] (ov := none) (stk2 := []) okp_X11_putFour (by decide +kernel) ml_RX11_97 vok_X11_putFour (by decide) rfl nar_X11_putFour (by decide) rfl (Nat.le_of_ble_eq_true rfl) (ok_X11_putFour h7) rfl ?_
    refine aw_seq [(.aload_n 0, 1, ax0), (.iload 5, 2, ax0)] (pc' := 36) (L' := [some (aR 11 0 0), some (aI v1), some (aI v2), some (aI v3), some (aI v4), some (aI v5)]) (stk' := [aI v5, aR 11 0 0]) (σ' := σ8) (g := []) (by decide +kernel) rfl rfl ?_
    obtain ⟨σ10, h9, h⟩ := bndV_some h
    refine aw_cV (P' := pX11_putFour) (idx := 97) (d' := 1) (c := 11) (n := 0) (k := 0) [aI v5] [] (ov := none) (stk2 := []) okp_X11_putFour (by decide +kernel) ml_RX11_97 vok_X11_putFour (by decide) rfl nar_X11_putFour (by decide) rfl (Nat.le_of_ble_eq_true rfl) (ok_X11_putFour h9) rfl ?_
    refine aw_seq [(.aload_n 0, 1, ax0), (.getfield 93, 3, (axF 11 10 (0, 0, 0, none)))] (pc' := 43) (L' := [some (aR 11 0 0), some (aI v1), some (aI v2), some (aI v3), some (aI v4), some (aI v5)]) (stk' := [aI (σ10.1 0 10)]) (σ' := σ10) (g := []) (by decide +kernel) rfl rfl ?_
    cases h
    exact aw_iret rfl (by decide +kernel)
  · rw [if_neg c1] at h
    refine aw_seq [(.iconst (-1), 1, (axI (-1)))] (pc' := 11) (L' := [some (aR 11 0 0), some (aI v1), some (aI v2), some (aI v3), some (aI v4), some (aI v5)]) (stk' := [aI (-1)]) (σ' := σ) (g := []) (by decide +kernel) rfl rfl ?_
    cases h
    exact aw_iret rfl (by decide +kernel)
def f_X11_end (v1 : Int32) (σ : Sg) : Option (Int32 × Sg) :=
  bnd (f_X11_within v1 0 (σ.1 0 10) σ) fun r3 σ2 =>
  if r3 = 0 then (
    some ((-1), σ2)
  ) else (
    ltσ (wI σ2 0 10 v1) fun σ4 =>
    some (v1, σ4)
  )
set_option maxRecDepth 100000 in
set_option maxHeartbeats 4000000 in
theorem ok_X11_end {κ : Kd} {v1 : Int32} {σ : Sg} {q : (Int32 × Sg)} (h : f_X11_end v1 σ = some q) : AMet κ pX11_end 2 [aR 11 0 0, aI v1] σ (some (aI q.1), q.2) := by
  unfold f_X11_end at h
  refine amet_of okp_X11_end [(false, aR 11 0 0), (false, aI v1)] (List.forall_mem_cons.mpr ⟨rfl, List.forall_mem_cons.mpr ⟨rfl, (fun _ hn => absurd hn List.not_mem_nil)⟩⟩) 0 rfl ?_
  show AW κ pX11_end 2 (some (aI q.1), q.2) 0 [some (aR 11 0 0), some (aI v1)] [] σ
  refine aw_seq [(.iload_n 1, 1, ax0), (.iconst 0, 1, (axI 0)), (.aload_n 0, 1, ax0), (.getfield 93, 3, (axF 11 10 (0, 0, 0, none)))] (pc' := 6) (L' := [some (aR 11 0 0), some (aI v1)]) (stk' := [aI (σ.1 0 10), aI 0, aI v1]) (σ' := σ) (g := []) (by decide +kernel) rfl rfl ?_
  obtain ⟨r3, σ2, h1, h⟩ := bnd_some h
  refine aw_cS (P' := pX11_within) (idx := 79) (d' := 1) [aI v1, aI 0, aI (σ.1 0 10)] [] (ov := (some (aI r3))) (stk2 := [aI r3]) okp_X11_within (by decide +kernel) ml_RX11_79 tok_X11_within nar_X11_within (by decide) rfl (Nat.le_of_ble_eq_true rfl) (ok_X11_within h1) rfl ?_
  refine aw_if_ne (off := 5) (tgt := 14) (by decide +kernel) (by decide) (fun c1 => ?_) (fun c1 => ?_)
  · rw [if_neg c1] at h
    obtain ⟨σ4, e5, h⟩ := ltσ_some h
    refine aw_seq [(.aload_n 0, 1, ax0), (.iload_n 1, 1, ax0), (.putfield 93, 3, (axF 11 10 (0, 0, 0, none)))] (pc' := 19) (L' := [some (aR 11 0 0), some (aI v1)]) (stk' := []) (σ' := σ4) (g := []) (by decide +kernel) (by rw [e5]; rfl) rfl ?_
    refine aw_seq [(.iload_n 1, 1, ax0)] (pc' := 20) (L' := [some (aR 11 0 0), some (aI v1)]) (stk' := [aI v1]) (σ' := σ4) (g := []) (by decide +kernel) rfl rfl ?_
    cases h
    exact aw_iret rfl (by decide +kernel)
  · rw [if_pos c1] at h
    refine aw_seq [(.iconst (-1), 1, (axI (-1)))] (pc' := 13) (L' := [some (aR 11 0 0), some (aI v1)]) (stk' := [aI (-1)]) (σ' := σ2) (g := []) (by decide +kernel) rfl rfl ?_
    cases h
    exact aw_iret rfl (by decide +kernel)
def f_X11_fault_19    (σ : Sg) : Option (Int32 × Sg) :=
  some ((-1), σ)
set_option maxRecDepth 100000 in
set_option maxHeartbeats 4000000 in
theorem ok_X11_fault_19 {κ : Kd}    : ∀  (σ : Sg) (q : (Int32 × Sg)), f_X11_fault_19  σ = some q → AW κ pX11_fault 2 (some (aI q.1), q.2) 19 [none, none] [] σ := by
  intro  σ q h
  unfold f_X11_fault_19 at h
  refine aw_seq [(.iconst (-1), 1, (axI (-1)))] (pc' := 20) (L' := [none, none]) (stk' := [aI (-1)]) (σ' := σ) (g := []) (by decide +kernel) rfl rfl ?_
  cases h
  exact aw_iret rfl (by decide +kernel)
def f_X11_fault_42   (s0 : Int32) (σ : Sg) : Option (Int32 × Sg) :=
  some (s0, σ)
set_option maxRecDepth 100000 in
set_option maxHeartbeats 4000000 in
theorem ok_X11_fault_42 {κ : Kd}    : ∀ (s0 : Int32) (σ : Sg) (q : (Int32 × Sg)), f_X11_fault_42 s0 σ = some q → AW κ pX11_fault 2 (some (aI q.1), q.2) 42 [none, none] [aI s0] σ := by
  intro s0 σ q h
  unfold f_X11_fault_42 at h
  cases h
  exact aw_iret rfl (by decide +kernel)
def f_X11_fault (v1 : Int32) (σ : Sg) : Option (Int32 × Sg) :=
  if (σ.1 49 0) = 0 then (
    f_X11_fault_19 σ
  ) else (
    bnd (f_X11_within v1 0 1 σ) fun r3 σ2 =>
    if r3 = 0 then (
      f_X11_fault_19 σ2
    ) else (
      if v1 = 0 then (
        f_X11_fault_42 (σ2.1 49 1) σ2
      ) else (
        f_X11_fault_42 (σ2.1 49 2) σ2
      )
    )
  )
set_option maxRecDepth 100000 in
set_option maxHeartbeats 4000000 in
theorem ok_X11_fault {κ : Kd} {v1 : Int32} {σ : Sg} {q : (Int32 × Sg)} (h : f_X11_fault v1 σ = some q) : AMet κ pX11_fault 2 [aR 11 0 0, aI v1] σ (some (aI q.1), q.2) := by
  unfold f_X11_fault at h
  refine amet_of okp_X11_fault [(false, aR 11 0 0), (false, aI v1)] (List.forall_mem_cons.mpr ⟨rfl, List.forall_mem_cons.mpr ⟨rfl, (fun _ hn => absurd hn List.not_mem_nil)⟩⟩) 0 rfl ?_
  show AW κ pX11_fault 2 (some (aI q.1), q.2) 0 [some (aR 11 0 0), some (aI v1)] [] σ
  refine aw_seq [(.aload_n 0, 1, ax0), (.getfield 36, 3, (axF 11 4 (2, 49, 3, some 0))), (.getfield 112, 3, (axF 3 0 (3, 0, 0, none)))] (pc' := 7) (L' := [some (aR 11 0 0), some (aI v1)]) (stk' := [aI (σ.1 49 0)]) (σ' := σ) (g := []) (by decide +kernel) rfl rfl ?_
  refine aw_if_eq (off := 12) (tgt := 19) (by decide +kernel) (by decide) (fun c1 => ?_) (fun c1 => ?_)
  · rw [if_pos c1] at h
    refine aw_forget (L' := [none, none]) (lsub_n (lsub_n (lsub_0))) ?_
    exact ok_X11_fault_19 σ _ h
  · rw [if_neg c1] at h
    refine aw_seq [(.iload_n 1, 1, ax0), (.iconst 0, 1, (axI 0)), (.iconst 1, 1, (axI 1))] (pc' := 13) (L' := [some (aR 11 0 0), some (aI v1)]) (stk' := [aI 1, aI 0, aI v1]) (σ' := σ) (g := []) (by decide +kernel) rfl rfl ?_
    obtain ⟨r3, σ2, h1, h⟩ := bnd_some h
    refine aw_cS (P' := pX11_within) (idx := 79) (d' := 1) [aI v1, aI 0, aI 1] [] (ov := (some (aI r3))) (stk2 := [aI r3]) okp_X11_within (by decide +kernel) ml_RX11_79 tok_X11_within nar_X11_within (by decide) rfl (Nat.le_of_ble_eq_true rfl) (ok_X11_within h1) rfl ?_
    refine aw_if_ne (off := 5) (tgt := 21) (by decide +kernel) (by decide) (fun c1 => ?_) (fun c1 => ?_)
    · rw [if_neg c1] at h
      refine aw_seq [(.iload_n 1, 1, ax0)] (pc' := 22) (L' := [some (aR 11 0 0), some (aI v1)]) (stk' := [aI v1]) (σ' := σ2) (g := []) (by decide +kernel) rfl rfl ?_
      refine aw_if_ne (off := 13) (tgt := 35) (by decide +kernel) (by decide) (fun c1 => ?_) (fun c1 => ?_)
      · rw [if_neg c1] at h
        refine aw_seq [(.aload_n 0, 1, ax0), (.getfield 36, 3, (axF 11 4 (2, 49, 3, some 0))), (.getfield 119, 3, (axF 3 2 (0, 0, 0, none)))] (pc' := 42) (L' := [some (aR 11 0 0), some (aI v1)]) (stk' := [aI (σ2.1 49 2)]) (σ' := σ2) (g := []) (by decide +kernel) rfl rfl ?_
        refine aw_forget (L' := [none, none]) (lsub_n (lsub_n (lsub_0))) ?_
        exact ok_X11_fault_42 (σ2.1 49 2) σ2 _ h
      · rw [if_pos c1] at h
        refine aw_seq [(.aload_n 0, 1, ax0), (.getfield 36, 3, (axF 11 4 (2, 49, 3, some 0))), (.getfield 116, 3, (axF 3 1 (0, 0, 0, none)))] (pc' := 32) (L' := [some (aR 11 0 0), some (aI v1)]) (stk' := [aI (σ2.1 49 1)]) (σ' := σ2) (g := []) (by decide +kernel) rfl rfl ?_
        refine aw_goto (off := 10) (tgt := 42) (by decide +kernel) (by decide) ?_
        refine aw_forget (L' := [none, none]) (lsub_n (lsub_n (lsub_0))) ?_
        exact ok_X11_fault_42 (σ2.1 49 1) σ2 _ h
    · rw [if_pos c1] at h
      refine aw_forget (L' := [none, none]) (lsub_n (lsub_n (lsub_0))) ?_
      exact ok_X11_fault_19 σ2 _ h
def f_X11_by_24   (v1 : Int32) (σ : Sg) : Option (Int32 × Sg) :=
  ltσ (wI σ 1 5 v1) fun σ1 =>
  some (1, σ1)
set_option maxRecDepth 100000 in
set_option maxHeartbeats 4000000 in
theorem ok_X11_by_24 {κ : Kd}    : ∀ (v1 : Int32) (σ : Sg) (q : (Int32 × Sg)), f_X11_by_24 v1 σ = some q → AW κ pX11_by 2 (some (aI q.1), q.2) 24 [some (aR 11 0 0), some (aI v1)] [] σ := by
  intro v1 σ q h
  unfold f_X11_by_24 at h
  obtain ⟨σ1, e2, h⟩ := ltσ_some h
  refine aw_seq [(.aload_n 0, 1, ax0), (.getfield 10, 3, (axF 11 0 (2, 1, 10, some 0))), (.iload_n 1, 1, ax0), (.putfield 122, 3, (axF 10 5 (0, 0, 0, none)))] (pc' := 32) (L' := [some (aR 11 0 0), some (aI v1)]) (stk' := []) (σ' := σ1) (g := []) (by decide +kernel) (by rw [e2]; rfl) rfl ?_
  refine aw_seq [(.iconst 1, 1, (axI 1))] (pc' := 33) (L' := [some (aR 11 0 0), some (aI v1)]) (stk' := [aI 1]) (σ' := σ1) (g := []) (by decide +kernel) rfl rfl ?_
  cases h
  exact aw_zret rfl bz_1 (by decide +kernel)
def f_X11_by (v1 : Int32) (σ : Sg) : Option (Int32 × Sg) :=
  if v1 = (-1) then (
    f_X11_by_24 v1 σ
  ) else (
    bnd (f_X11_within v1 0 ((σ.1 1 4) - 1) σ) fun r5 σ4 =>
    if r5 = 0 then (
      some (0, σ4)
    ) else (
      f_X11_by_24 v1 σ4
    )
  )
set_option maxRecDepth 100000 in
set_option maxHeartbeats 4000000 in
theorem ok_X11_by {κ : Kd} {v1 : Int32} {σ : Sg} {q : (Int32 × Sg)} (h : f_X11_by v1 σ = some q) : AMet κ pX11_by 2 [aR 11 0 0, aI v1] σ (some (aI q.1), q.2) := by
  unfold f_X11_by at h
  refine amet_of okp_X11_by [(false, aR 11 0 0), (false, aI v1)] (List.forall_mem_cons.mpr ⟨rfl, List.forall_mem_cons.mpr ⟨rfl, (fun _ hn => absurd hn List.not_mem_nil)⟩⟩) 0 rfl ?_
  show AW κ pX11_by 2 (some (aI q.1), q.2) 0 [some (aR 11 0 0), some (aI v1)] [] σ
  refine aw_seq [(.iload_n 1, 1, ax0), (.iconst (-1), 1, (axI (-1)))] (pc' := 2) (L' := [some (aR 11 0 0), some (aI v1)]) (stk' := [aI (-1), aI v1]) (σ' := σ) (g := []) (by decide +kernel) rfl rfl ?_
  refine aw_icmp_eq (off := 22) (tgt := 24) (by decide +kernel) (by decide) (fun c1 => ?_) (fun c1 => ?_)
  · rw [if_pos c1] at h
    refine aw_forget (L' := [some (aR 11 0 0), some (aI v1)]) (lsub_s (lsub_s (lsub_0))) ?_
    exact ok_X11_by_24 v1 σ _ h
  · rw [if_neg c1] at h
    refine aw_seq [(.iload_n 1, 1, ax0), (.iconst 0, 1, (axI 0)), (.aload_n 0, 1, ax0), (.getfield 10, 3, (axF 11 0 (2, 1, 10, some 0))), (.getfield 101, 3, (axF 10 4 (0, 0, 0, none))), (.iconst 1, 1, (axI 1)), (.isub, 1, ax0)] (pc' := 16) (L' := [some (aR 11 0 0), some (aI v1)]) (stk' := [aI ((σ.1 1 4) - 1), aI 0, aI v1]) (σ' := σ) (g := []) (by decide +kernel) rfl rfl ?_
    obtain ⟨r5, σ4, h3, h⟩ := bnd_some h
    refine aw_cS (P' := pX11_within) (idx := 79) (d' := 1) [aI v1, aI 0, aI ((σ.1 1 4) - 1)] [] (ov := (some (aI r5))) (stk2 := [aI r5]) okp_X11_within (by decide +kernel) ml_RX11_79 tok_X11_within nar_X11_within (by decide) rfl (Nat.le_of_ble_eq_true rfl) (ok_X11_within h3) rfl ?_
    refine aw_if_ne (off := 5) (tgt := 24) (by decide +kernel) (by decide) (fun c1 => ?_) (fun c1 => ?_)
    · rw [if_neg c1] at h
      refine aw_forget (L' := [some (aR 11 0 0), some (aI v1)]) (lsub_s (lsub_s (lsub_0))) ?_
      exact ok_X11_by_24 v1 σ4 _ h
    · rw [if_pos c1] at h
      refine aw_seq [(.iconst 0, 1, (axI 0))] (pc' := 23) (L' := [some (aR 11 0 0), some (aI v1)]) (stk' := [aI 0]) (σ' := σ4) (g := []) (by decide +kernel) rfl rfl ?_
      cases h
      exact aw_zret rfl bz_0 (by decide +kernel)
def f_X8_store_13 (t : Nat) (qa : Nat)   (σ : Sg) : Option Sg :=
  some σ
set_option maxRecDepth 100000 in
set_option maxHeartbeats 4000000 in
theorem ok_X8_store_13 {κ : Kd} {t : Nat} {qa : Nat}   : ∀  (σ : Sg) (q : Sg), f_X8_store_13 t qa  σ = some q → AW κ pX8_store 2 (none, q) 13 [none, none, none] [] σ := by
  intro  σ q h
  unfold f_X8_store_13 at h
  cases h
  exact aw_vret rfl (by decide +kernel)
def f_X8_store (t : Nat) (qa : Nat) (v2 : Int32) (σ : Sg) : Option Sg :=
  if v2 < 0 then (
    f_X8_store_13 t qa σ
  ) else (
    if v2 ≤ (1770 - 59) then (
      grd (inb v2 1770 && true) <|
      ltσ (wI σ qa (ix v2) (σ.1 t 0)) fun σ1 =>
      grd (inb (v2 + 1) 1770 && true) <|
      ltσ (wI σ1 qa (ix (v2 + 1)) (σ1.1 t 5)) fun σ3 =>
      grd (inb (v2 + 2) 1770 && true) <|
      ltσ (wI σ3 qa (ix (v2 + 2)) (σ3.1 t 6)) fun σ5 =>
      grd (inb (v2 + 3) 1770 && true) <|
      ltσ (wI σ5 qa (ix (v2 + 3)) (σ5.1 t 7)) fun σ7 =>
      grd (inb (v2 + 4) 1770 && true) <|
      ltσ (wI σ7 qa (ix (v2 + 4)) (σ7.1 t 9)) fun σ9 =>
      grd (cpg 0 (v2 + 5) 8 8 1770) <|
      ltσ (wC σ9 (t + 2) (ix 0) qa (ix (v2 + 5)) (ix 8)) fun σ11 =>
      grd (cpg 0 ((v2 + 5) + 8) 8 8 1770) <|
      ltσ (wC σ11 (t + 3) (ix 0) qa (ix ((v2 + 5) + 8)) (ix 8)) fun σ13 =>
      grd (cpg 0 ((v2 + 5) + 16) 8 8 1770) <|
      ltσ (wC σ13 (t + 4) (ix 0) qa (ix ((v2 + 5) + 16)) (ix 8)) fun σ15 =>
      grd (cpg 0 ((v2 + 5) + 24) 30 30 1770) <|
      ltσ (wC σ15 (t + 5) (ix 0) qa (ix ((v2 + 5) + 24)) (ix 30)) fun σ17 =>
      some σ17
    ) else (
      f_X8_store_13 t qa σ
    )
  )
set_option maxRecDepth 100000 in
set_option maxHeartbeats 4000000 in
theorem ok_X8_store {κ : Kd} {t : Nat} {qa : Nat} {v2 : Int32} {σ : Sg} {q : Sg} (h : f_X8_store t qa v2 σ = some q) : AMet κ pX8_store 2 [aR 8 0 t, aR 13 1770 qa, aI v2] σ (none, q) := by
  unfold f_X8_store at h
  refine amet_of okp_X8_store [(false, aR 8 0 t), (false, aR 13 1770 qa), (false, aI v2)] (List.forall_mem_cons.mpr ⟨rfl, List.forall_mem_cons.mpr ⟨rfl, List.forall_mem_cons.mpr ⟨rfl, (fun _ hn => absurd hn List.not_mem_nil)⟩⟩⟩) 0 rfl ?_
  show AW κ pX8_store 2 (none, q) 0 [some (aR 8 0 t), some (aR 13 1770 qa), some (aI v2)] [] σ
  refine aw_seq [(.iload_n 2, 1, ax0)] (pc' := 1) (L' := [some (aR 8 0 t), some (aR 13 1770 qa), some (aI v2)]) (stk' := [aI v2]) (σ' := σ) (g := []) (by decide +kernel) rfl rfl ?_
  refine aw_if_lt (off := 12) (tgt := 13) (by decide +kernel) (by decide) (fun c1 => ?_) (fun c1 => ?_)
  · rw [if_pos c1] at h
    refine aw_forget (L' := [none, none, none]) (lsub_n (lsub_n (lsub_n (lsub_0)))) ?_
    exact ok_X8_store_13 σ _ h
  · rw [if_neg c1] at h
    refine aw_seq [(.iload_n 2, 1, ax0), (.aload_n 1, 1, ax0), (.arraylength, 1, ax0), (.bipush 59, 2, (axI 59)), (.isub, 1, ax0)] (pc' := 10) (L' := [some (aR 8 0 t), some (aR 13 1770 qa), some (aI v2)]) (stk' := [aI (1770 - 59), aI v2]) (σ' := σ) (g := []) (by decide +kernel) rfl rfl ?_
    refine aw_icmp_le (off := 4) (tgt := 14) (by decide +kernel) (by decide) (fun c1 => ?_) (fun c1 => ?_)
    · rw [if_pos c1] at h
      obtain ⟨hg, h⟩ := grd_some h
      obtain ⟨σ1, e2, h⟩ := ltσ_some h
      refine aw_seq [(.aload_n 1, 1, ax0), (.iload_n 2, 1, ax0), (.aload_n 0, 1, ax0), (.getfield 31, 3, (axF 8 0 (0, 0, 0, none))), (.iastore, 1, ax0)] (pc' := 21) (L' := [some (aR 8 0 t), some (aR 13 1770 qa), some (aI v2)]) (stk' := []) (σ' := σ1) (g := [inb v2 1770]) (by decide +kernel) (by rw [e2]; rfl) hg ?_
      obtain ⟨hg, h⟩ := grd_some h
      obtain ⟨σ3, e4, h⟩ := ltσ_some h
      refine aw_seq [(.aload_n 1, 1, ax0), (.iload_n 2, 1, ax0), (.iconst 1, 1, (axI 1)), (.iadd, 1, ax0), (.aload_n 0, 1, ax0), (.getfield 40, 3, (axF 8 5 (0, 0, 0, none))), (.iastore, 1, ax0)] (pc' := 30) (L' := [some (aR 8 0 t), some (aR 13 1770 qa), some (aI v2)]) (stk' := []) (σ' := σ3) (g := [inb (v2 + 1) 1770]) (by decide +kernel) (by rw [e4]; rfl) hg ?_
      obtain ⟨hg, h⟩ := grd_some h
      obtain ⟨σ5, e6, h⟩ := ltσ_some h
      refine aw_seq [(.aload_n 1, 1, ax0), (.iload_n 2, 1, ax0), (.iconst 2, 1, (axI 2)), (.iadd, 1, ax0), (.aload_n 0, 1, ax0), (.getfield 43, 3, (axF 8 6 (0, 0, 0, none))), (.iastore, 1, ax0)] (pc' := 39) (L' := [some (aR 8 0 t), some (aR 13 1770 qa), some (aI v2)]) (stk' := []) (σ' := σ5) (g := [inb (v2 + 2) 1770]) (by decide +kernel) (by rw [e6]; rfl) hg ?_
      obtain ⟨hg, h⟩ := grd_some h
      obtain ⟨σ7, e8, h⟩ := ltσ_some h
      refine aw_seq [(.aload_n 1, 1, ax0), (.iload_n 2, 1, ax0), (.iconst 3, 1, (axI 3)), (.iadd, 1, ax0), (.aload_n 0, 1, ax0), (.getfield 24, 3, (axF 8 7 (0, 0, 0, none))), (.iastore, 1, ax0)] (pc' := 48) (L' := [some (aR 8 0 t), some (aR 13 1770 qa), some (aI v2)]) (stk' := []) (σ' := σ7) (g := [inb (v2 + 3) 1770]) (by decide +kernel) (by rw [e8]; rfl) hg ?_
      obtain ⟨hg, h⟩ := grd_some h
      obtain ⟨σ9, e10, h⟩ := ltσ_some h
      refine aw_seq [(.aload_n 1, 1, ax0), (.iload_n 2, 1, ax0), (.iconst 4, 1, (axI 4)), (.iadd, 1, ax0), (.aload_n 0, 1, ax0), (.getfield 46, 3, (axF 8 9 (0, 0, 0, none))), (.iastore, 1, ax0)] (pc' := 57) (L' := [some (aR 8 0 t), some (aR 13 1770 qa), some (aI v2)]) (stk' := []) (σ' := σ9) (g := [inb (v2 + 4) 1770]) (by decide +kernel) (by rw [e10]; rfl) hg ?_
      refine aw_seq [(.aload_n 0, 1, ax0), (.getfield 15, 3, (axF 8 2 (2, 2, 13, some 8))), (.iconst 0, 1, (axI 0)), (.aload_n 1, 1, ax0), (.iload_n 2, 1, ax0), (.iconst 5, 1, (axI 5)), (.iadd, 1, ax0), (.bipush 8, 2, (axI 8))] (pc' := 68) (L' := [some (aR 8 0 t), some (aR 13 1770 qa), some (aI v2)]) (stk' := [aI 8, aI (v2 + 5), aR 13 1770 qa, aI 0, aR 13 8 (t + 2)]) (σ' := σ9) (g := []) (by decide +kernel) rfl rfl ?_
      obtain ⟨hg, h⟩ := grd_some h
      obtain ⟨σ11, e12, h⟩ := ltσ_some h
      refine aw_copyI (idx := 34) (by decide) (Nat.le_of_ble_eq_true rfl) jw_copy ml_RX8_34 (by decide +kernel) hg ?_
      rw [← e12]
      refine aw_seq [(.aload_n 0, 1, ax0), (.getfield 18, 3, (axF 8 3 (2, 3, 13, some 8))), (.iconst 0, 1, (axI 0)), (.aload_n 1, 1, ax0), (.iload_n 2, 1, ax0), (.iconst 5, 1, (axI 5)), (.iadd, 1, ax0), (.bipush 8, 2, (axI 8)), (.iadd, 1, ax0), (.bipush 8, 2, (axI 8))] (pc' := 85) (L' := [some (aR 8 0 t), some (aR 13 1770 qa), some (aI v2)]) (stk' := [aI 8, aI ((v2 + 5) + 8), aR 13 1770 qa, aI 0, aR 13 8 (t + 3)]) (σ' := σ11) (g := []) (by decide +kernel) rfl rfl ?_
      obtain ⟨hg, h⟩ := grd_some h
      obtain ⟨σ13, e14, h⟩ := ltσ_some h
      refine aw_copyI (idx := 34) (by decide) (Nat.le_of_ble_eq_true rfl) jw_copy ml_RX8_34 (by decide +kernel) hg ?_
      rw [← e14]
      refine aw_seq [(.aload_n 0, 1, ax0), (.getfield 21, 3, (axF 8 4 (2, 4, 13, some 8))), (.iconst 0, 1, (axI 0)), (.aload_n 1, 1, ax0), (.iload_n 2, 1, ax0), (.iconst 5, 1, (axI 5)), (.iadd, 1, ax0), (.bipush 16, 2, (axI 16)), (.iadd, 1, ax0), (.bipush 8, 2, (axI 8))] (pc' := 102) (L' := [some (aR 8 0 t), some (aR 13 1770 qa), some (aI v2)]) (stk' := [aI 8, aI ((v2 + 5) + 16), aR 13 1770 qa, aI 0, aR 13 8 (t + 4)]) (σ' := σ13) (g := []) (by decide +kernel) rfl rfl ?_
      obtain ⟨hg, h⟩ := grd_some h
      obtain ⟨σ15, e16, h⟩ := ltσ_some h
      refine aw_copyI (idx := 34) (by decide) (Nat.le_of_ble_eq_true rfl) jw_copy ml_RX8_34 (by decide +kernel) hg ?_
      rw [← e16]
      refine aw_seq [(.aload_n 0, 1, ax0), (.getfield 28, 3, (axF 8 8 (2, 5, 13, some 30))), (.iconst 0, 1, (axI 0)), (.aload_n 1, 1, ax0), (.iload_n 2, 1, ax0), (.iconst 5, 1, (axI 5)), (.iadd, 1, ax0), (.bipush 24, 2, (axI 24)), (.iadd, 1, ax0), (.bipush 30, 2, (axI 30))] (pc' := 119) (L' := [some (aR 8 0 t), some (aR 13 1770 qa), some (aI v2)]) (stk' := [aI 30, aI ((v2 + 5) + 24), aR 13 1770 qa, aI 0, aR 13 30 (t + 5)]) (σ' := σ15) (g := []) (by decide +kernel) rfl rfl ?_
      obtain ⟨hg, h⟩ := grd_some h
      obtain ⟨σ17, e18, h⟩ := ltσ_some h
      refine aw_copyI (idx := 34) (by decide) (Nat.le_of_ble_eq_true rfl) jw_copy ml_RX8_34 (by decide +kernel) hg ?_
      rw [← e18]
      cases h
      exact aw_vret rfl (by decide +kernel)
    · rw [if_neg c1] at h
      refine aw_forget (L' := [none, none, none]) (lsub_n (lsub_n (lsub_n (lsub_0)))) ?_
      exact ok_X8_store_13 σ _ h
def f_X4_keep_32 (p : Nat) (t : Nat)   (σ : Sg) : Option Sg :=
  grd ((!decide ((30 : Int32) = 0)) && true) <|
  bndV (f_X8_store t (p + 1) ((jrem ((σ.1 p 1) + (σ.1 p 2)) 30) * 59) σ) fun σ2 =>
  ltσ (wI σ2 p 2 ((σ2.1 p 2) + 1)) fun σ3 =>
  some σ3
set_option maxRecDepth 100000 in
set_option maxHeartbeats 4000000 in
theorem ok_X4_keep_32 {κ : Kd} {p : Nat} {t : Nat}   : ∀  (σ : Sg) (q : Sg), f_X4_keep_32 p t  σ = some q → AW κ pX4_keep 3 (none, q) 32 [some (aR 4 0 p), some (aR 8 0 t)] [] σ := by
  intro  σ q h
  unfold f_X4_keep_32 at h
  obtain ⟨hg, h⟩ := grd_some h
  refine aw_seq [(.aload_n 1, 1, ax0), (.aload_n 0, 1, ax0), (.getfield 11, 3, (axF 4 0 (2, 1, 13, some 1770))), (.aload_n 0, 1, ax0), (.getfield 21, 3, (axF 4 1 (0, 0, 0, none))), (.aload_n 0, 1, ax0), (.getfield 25, 3, (axF 4 2 (0, 0, 0, none))), (.iadd, 1, ax0), (.bipush 30, 2, (axI 30)), (.irem, 1, ax0), (.bipush 59, 2, (axI 59)), (.imul, 1, ax0)] (pc' := 52) (L' := [some (aR 4 0 p), some (aR 8 0 t)]) (stk' := [aI ((jrem ((σ.1 p 1) + (σ.1 p 2)) 30) * 59), aR 13 1770 (p + 1), aR 8 0 t]) (σ' := σ) (g := [(!decide ((30 : Int32) = 0))]) (by decide +kernel) rfl hg ?_
  obtain ⟨σ2, h1, h⟩ := bndV_some h
  refine aw_cV (P' := pX8_store) (idx := 28) (d' := 2) (c := 8) (n := 0) (k := t) [aR 13 1770 (p + 1), aI ((jrem ((σ.1 p 1) + (σ.1 p 2)) 30) * 59)] [] (ov := none) (stk2 := []) okp_X8_store (by decide +kernel) ml_RX4_28 vok_X8_store (by decide) rfl nar_X8_store (by decide) rfl (Nat.le_of_ble_eq_true rfl) (ok_X8_store h1) rfl ?_
  obtain ⟨σ3, e4, h⟩ := ltσ_some h
  refine aw_seq [(.aload_n 0, 1, ax0), (.dup, 1, ax0), (.getfield 25, 3, (axF 4 2 (0, 0, 0, none))), (.iconst 1, 1, (axI 1)), (.iadd, 1, ax0), (.putfield 25, 3, (axF 4 2 (0, 0, 0, none)))] (pc' := 65) (L' := [some (aR 4 0 p), some (aR 8 0 t)]) (stk' := []) (σ' := σ3) (g := []) (by decide +kernel) (by rw [e4]; rfl) rfl ?_
  cases h
  exact aw_vret rfl (by decide +kernel)
def f_X4_keep (p : Nat) (t : Nat) (σ : Sg) : Option Sg :=
  if (σ.1 p 2) < 30 then (
    f_X4_keep_32 p t σ
  ) else (
    grd ((!decide ((30 : Int32) = 0)) && true) <|
    ltσ (wI σ p 1 (jrem ((σ.1 p 1) + 1) 30)) fun σ5 =>
    ltσ (wI σ5 p 2 ((σ5.1 p 2) - 1)) fun σ7 =>
    f_X4_keep_32 p t σ7
  )
set_option maxRecDepth 100000 in
set_option maxHeartbeats 4000000 in
theorem ok_X4_keep {κ : Kd} {p : Nat} {t : Nat} {σ : Sg} {q : Sg} (h : f_X4_keep p t σ = some q) : AMet κ pX4_keep 3 [aR 4 0 p, aR 8 0 t] σ (none, q) := by
  unfold f_X4_keep at h
  refine amet_of okp_X4_keep [(false, aR 4 0 p), (false, aR 8 0 t)] (List.forall_mem_cons.mpr ⟨rfl, List.forall_mem_cons.mpr ⟨rfl, (fun _ hn => absurd hn List.not_mem_nil)⟩⟩) 0 rfl ?_
  show AW κ pX4_keep 3 (none, q) 0 [some (aR 4 0 p), some (aR 8 0 t)] [] σ
  refine aw_seq [(.aload_n 0, 1, ax0), (.getfield 25, 3, (axF 4 2 (0, 0, 0, none))), (.bipush 30, 2, (axI 30))] (pc' := 6) (L' := [some (aR 4 0 p), some (aR 8 0 t)]) (stk' := [aI 30, aI (σ.1 p 2)]) (σ' := σ) (g := []) (by decide +kernel) rfl rfl ?_
  refine aw_icmp_lt (off := 26) (tgt := 32) (by decide +kernel) (by decide) (fun c1 => ?_) (fun c1 => ?_)
  · rw [if_pos c1] at h
    refine aw_forget (L' := [some (aR 4 0 p), some (aR 8 0 t)]) (lsub_s (lsub_s (lsub_0))) ?_
    exact ok_X4_keep_32 σ _ h
  · rw [if_neg c1] at h
    obtain ⟨hg, h⟩ := grd_some h
    obtain ⟨σ5, e6, h⟩ := ltσ_some h
    refine aw_seq [(.aload_n 0, 1, ax0), (.aload_n 0, 1, ax0), (.getfield 21, 3, (axF 4 1 (0, 0, 0, none))), (.iconst 1, 1, (axI 1)), (.iadd, 1, ax0), (.bipush 30, 2, (axI 30)), (.irem, 1, ax0), (.putfield 21, 3, (axF 4 1 (0, 0, 0, none)))] (pc' := 22) (L' := [some (aR 4 0 p), some (aR 8 0 t)]) (stk' := []) (σ' := σ5) (g := [(!decide ((30 : Int32) = 0))]) (by decide +kernel) (by rw [e6]; rfl) hg ?_
    obtain ⟨σ7, e8, h⟩ := ltσ_some h
    refine aw_seq [(.aload_n 0, 1, ax0), (.dup, 1, ax0), (.getfield 25, 3, (axF 4 2 (0, 0, 0, none))), (.iconst 1, 1, (axI 1)), (.isub, 1, ax0), (.putfield 25, 3, (axF 4 2 (0, 0, 0, none)))] (pc' := 32) (L' := [some (aR 4 0 p), some (aR 8 0 t)]) (stk' := []) (σ' := σ7) (g := []) (by decide +kernel) (by rw [e8]; rfl) rfl ?_
    refine aw_forget (L' := [some (aR 4 0 p), some (aR 8 0 t)]) (lsub_s (lsub_s (lsub_0))) ?_
    exact ok_X4_keep_32 σ7 _ h
def f_X8_note_30 (t : Nat)  (v1 : Int32) (v2 : Int32) (σ : Sg) : Option Sg :=
  grd (inb (σ.1 t 9) 30 && true) <|
  ltσ (wI σ (t + 5) (ix (σ.1 t 9)) (((shl (σ.1 t 5) 6) ||| (shl v1 3)) ||| v2)) fun σ1 =>
  ltσ (wI σ1 t 9 ((σ1.1 t 9) + 1)) fun σ3 =>
  some σ3
set_option maxRecDepth 100000 in
set_option maxHeartbeats 4000000 in
theorem ok_X8_note_30 {κ : Kd} {t : Nat}   : ∀ (v1 : Int32) (v2 : Int32) (σ : Sg) (q : Sg), f_X8_note_30 t v1 v2 σ = some q → AW κ pX8_note 2 (none, q) 30 [some (aR 8 0 t), some (aI v1), some (aI v2)] [] σ := by
  intro v1 v2 σ q h
  unfold f_X8_note_30 at h
  obtain ⟨hg, h⟩ := grd_some h
  obtain ⟨σ1, e2, h⟩ := ltσ_some h
  refine aw_seq [(.aload_n 0, 1, ax0), (.getfield 28, 3, (axF 8 8 (2, 5, 13, some 30))), (.aload_n 0, 1, ax0), (.getfield 46, 3, (axF 8 9 (0, 0, 0, none))), (.aload_n 0, 1, ax0), (.getfield 40, 3, (axF 8 5 (0, 0, 0, none))), (.bipush 6, 2, (axI 6)), (.ishl, 1, ax0), (.iload_n 1, 1, ax0), (.iconst 3, 1, (axI 3)), (.ishl, 1, ax0), (.ior, 1, ax0), (.iload_n 2, 1, ax0), (.ior, 1, ax0), (.iastore, 1, ax0)] (pc' := 52) (L' := [some (aR 8 0 t), some (aI v1), some (aI v2)]) (stk' := []) (σ' := σ1) (g := [inb (σ.1 t 9) 30]) (by decide +kernel) (by rw [e2]; rfl) hg ?_
  obtain ⟨σ3, e4, h⟩ := ltσ_some h
  refine aw_seq [(.aload_n 0, 1, ax0), (.dup, 1, ax0), (.getfield 46, 3, (axF 8 9 (0, 0, 0, none))), (.iconst 1, 1, (axI 1)), (.iadd, 1, ax0), (.putfield 46, 3, (axF 8 9 (0, 0, 0, none)))] (pc' := 62) (L' := [some (aR 8 0 t), some (aI v1), some (aI v2)]) (stk' := []) (σ' := σ3) (g := []) (by decide +kernel) (by rw [e4]; rfl) rfl ?_
  cases h
  exact aw_vret rfl (by decide +kernel)
def f_X8_note (t : Nat) (v1 : Int32) (v2 : Int32) (σ : Sg) : Option Sg :=
  if (σ.1 t 9) < 30 then (
    f_X8_note_30 t v1 v2 σ
  ) else (
    grd (cpg 1 0 29 30 30) <|
    ltσ (wC σ (t + 5) (ix 1) (t + 5) (ix 0) (ix 29)) fun σ5 =>
    ltσ (wI σ5 t 9 29) fun σ7 =>
    f_X8_note_30 t v1 v2 σ7
  )
set_option maxRecDepth 100000 in
set_option maxHeartbeats 4000000 in
theorem ok_X8_note {κ : Kd} {t : Nat} {v1 : Int32} {v2 : Int32} {σ : Sg} {q : Sg} (h : f_X8_note t v1 v2 σ = some q) : AMet κ pX8_note 2 [aR 8 0 t, aI v1, aI v2] σ (none, q) := by
  unfold f_X8_note at h
  refine amet_of okp_X8_note [(false, aR 8 0 t), (false, aI v1), (false, aI v2)] (List.forall_mem_cons.mpr ⟨rfl, List.forall_mem_cons.mpr ⟨rfl, List.forall_mem_cons.mpr ⟨rfl, (fun _ hn => absurd hn List.not_mem_nil)⟩⟩⟩) 0 rfl ?_
  show AW κ pX8_note 2 (none, q) 0 [some (aR 8 0 t), some (aI v1), some (aI v2)] [] σ
  refine aw_seq [(.aload_n 0, 1, ax0), (.getfield 46, 3, (axF 8 9 (0, 0, 0, none))), (.bipush 30, 2, (axI 30))] (pc' := 6) (L' := [some (aR 8 0 t), some (aI v1), some (aI v2)]) (stk' := [aI 30, aI (σ.1 t 9)]) (σ' := σ) (g := []) (by decide +kernel) rfl rfl ?_
  refine aw_icmp_lt (off := 24) (tgt := 30) (by decide +kernel) (by decide) (fun c1 => ?_) (fun c1 => ?_)
  · rw [if_pos c1] at h
    refine aw_forget (L' := [some (aR 8 0 t), some (aI v1), some (aI v2)]) (lsub_s (lsub_s (lsub_s (lsub_0)))) ?_
    exact ok_X8_note_30 v1 v2 σ _ h
  · rw [if_neg c1] at h
    refine aw_seq [(.aload_n 0, 1, ax0), (.getfield 28, 3, (axF 8 8 (2, 5, 13, some 30))), (.iconst 1, 1, (axI 1)), (.aload_n 0, 1, ax0), (.getfield 28, 3, (axF 8 8 (2, 5, 13, some 30))), (.iconst 0, 1, (axI 0)), (.bipush 29, 2, (axI 29))] (pc' := 21) (L' := [some (aR 8 0 t), some (aI v1), some (aI v2)]) (stk' := [aI 29, aI 0, aR 13 30 (t + 5), aI 1, aR 13 30 (t + 5)]) (σ' := σ) (g := []) (by decide +kernel) rfl rfl ?_
    obtain ⟨hg, h⟩ := grd_some h
    obtain ⟨σ5, e6, h⟩ := ltσ_some h
    refine aw_copyI (idx := 34) (by decide) (Nat.le_of_ble_eq_true rfl) jw_copy ml_RX8_34 (by decide +kernel) hg ?_
    rw [← e6]
    obtain ⟨σ7, e8, h⟩ := ltσ_some h
    refine aw_seq [(.aload_n 0, 1, ax0), (.bipush 29, 2, (axI 29)), (.putfield 46, 3, (axF 8 9 (0, 0, 0, none)))] (pc' := 30) (L' := [some (aR 8 0 t), some (aI v1), some (aI v2)]) (stk' := []) (σ' := σ7) (g := []) (by decide +kernel) (by rw [e8]; rfl) rfl ?_
    refine aw_forget (L' := [some (aR 8 0 t), some (aI v1), some (aI v2)]) (lsub_s (lsub_s (lsub_s (lsub_0)))) ?_
    exact ok_X8_note_30 v1 v2 σ7 _ h
def f_X8_set (t : Nat) (v1 : Int32) (v2 : Int32) (v3 : Int32) (σ : Sg) : Option Sg :=
  grd (inb v1 8 && true) <|
  ltσ (wI σ (t + 3) (ix v1) v2) fun σ1 =>
  grd (inb v1 8 && true) <|
  ltσ (wI σ1 (t + 4) (ix v1) v3) fun σ3 =>
  some σ3
set_option maxRecDepth 100000 in
set_option maxHeartbeats 4000000 in
theorem ok_X8_set {κ : Kd} {t : Nat} {v1 : Int32} {v2 : Int32} {v3 : Int32} {σ : Sg} {q : Sg} (h : f_X8_set t v1 v2 v3 σ = some q) : AMet κ pX8_set 1 [aR 8 0 t, aI v1, aI v2, aI v3] σ (none, q) := by
  unfold f_X8_set at h
  refine amet_of okp_X8_set [(false, aR 8 0 t), (false, aI v1), (false, aI v2), (false, aI v3)] (List.forall_mem_cons.mpr ⟨rfl, List.forall_mem_cons.mpr ⟨rfl, List.forall_mem_cons.mpr ⟨rfl, List.forall_mem_cons.mpr ⟨rfl, (fun _ hn => absurd hn List.not_mem_nil)⟩⟩⟩⟩) 0 rfl ?_
  show AW κ pX8_set 1 (none, q) 0 [some (aR 8 0 t), some (aI v1), some (aI v2), some (aI v3)] [] σ
  obtain ⟨hg, h⟩ := grd_some h
  obtain ⟨σ1, e2, h⟩ := ltσ_some h
  refine aw_seq [(.aload_n 0, 1, ax0), (.getfield 18, 3, (axF 8 3 (2, 3, 13, some 8))), (.iload_n 1, 1, ax0), (.iload_n 2, 1, ax0), (.iastore, 1, ax0)] (pc' := 7) (L' := [some (aR 8 0 t), some (aI v1), some (aI v2), some (aI v3)]) (stk' := []) (σ' := σ1) (g := [inb v1 8]) (by decide +kernel) (by rw [e2]; rfl) hg ?_
  obtain ⟨hg, h⟩ := grd_some h
  obtain ⟨σ3, e4, h⟩ := ltσ_some h
  refine aw_seq [(.aload_n 0, 1, ax0), (.getfield 21, 3, (axF 8 4 (2, 4, 13, some 8))), (.iload_n 1, 1, ax0), (.iload_n 3, 1, ax0), (.iastore, 1, ax0)] (pc' := 14) (L' := [some (aR 8 0 t), some (aI v1), some (aI v2), some (aI v3)]) (stk' := []) (σ' := σ3) (g := [inb v1 8]) (by decide +kernel) (by rw [e4]; rfl) hg ?_
  cases h
  exact aw_vret rfl (by decide +kernel)
def f_X8_act_119 (t : Nat)   (σ : Sg) : Option Sg :=
  some σ
set_option maxRecDepth 100000 in
set_option maxHeartbeats 4000000 in
theorem ok_X8_act_119 {κ : Kd} {t : Nat}   : ∀  (σ : Sg) (q : Sg), f_X8_act_119 t  σ = some q → AW κ pX8_act 3 (none, q) 119 [none, none, none, none] [] σ := by
  intro  σ q h
  unfold f_X8_act_119 at h
  cases h
  exact aw_vret rfl (by decide +kernel)
def f_X8_act (t : Nat) (v1 : Int32) (v2 : Int32) (v3 : Int32) (σ : Sg) : Option Sg :=
  if v1 = 5 then (
    bndV (f_X8_set t v2 2 9 σ) fun σ2 =>
    bndV (f_X8_note t v2 0 σ2) fun σ4 =>
    f_X8_act_119 t σ4
  ) else (
  if v1 = 6 then (
    grd (inb v2 8 && true) <|
    bndV (f_X8_set t v2 1 (σ.1 (t + 4) (ix v2)) σ) fun σ6 =>
    f_X8_act_119 t σ6
  ) else (
  if v1 = 7 then (
    grd (inb v2 8 && true) <|
    bndV (f_X8_set t v2 2 (σ.1 (t + 4) (ix v2)) σ) fun σ8 =>
    f_X8_act_119 t σ8
  ) else (
  if v1 = 8 then (
    grd (inb v3 8 && (inb v3 8 && true)) <|
    ltσ (wI σ (t + 4) (ix v3) ((σ.1 (t + 4) (ix v3)) - 1)) fun σ9 =>
    bndV (f_X8_set t v2 2 5 σ9) fun σ12 =>
    bndV (f_X8_note t v2 1 σ12) fun σ14 =>
    f_X8_act_119 t σ14
  ) else (
  if v1 = 9 then (
    bndV (f_X8_set t v2 0 0 σ) fun σ16 =>
    f_X8_act_119 t σ16
  ) else (
    f_X8_act_119 t σ
  )))))
set_option maxRecDepth 100000 in
set_option maxHeartbeats 4000000 in
theorem ok_X8_act {κ : Kd} {t : Nat} {v1 : Int32} {v2 : Int32} {v3 : Int32} {σ : Sg} {q : Sg} (h : f_X8_act t v1 v2 v3 σ = some q) : AMet κ pX8_act 3 [aR 8 0 t, aI v1, aI v2, aI v3] σ (none, q) := by
  unfold f_X8_act at h
  refine amet_of okp_X8_act [(false, aR 8 0 t), (false, aI v1), (false, aI v2), (false, aI v3)] (List.forall_mem_cons.mpr ⟨rfl, List.forall_mem_cons.mpr ⟨rfl, List.forall_mem_cons.mpr ⟨rfl, List.forall_mem_cons.mpr ⟨rfl, (fun _ hn => absurd hn List.not_mem_nil)⟩⟩⟩⟩) 0 rfl ?_
  show AW κ pX8_act 3 (none, q) 0 [some (aR 8 0 t), some (aI v1), some (aI v2), some (aI v3)] [] σ
  refine aw_seq [(.iload_n 1, 1, ax0)] (pc' := 1) (L' := [some (aR 8 0 t), some (aI v1), some (aI v2), some (aI v3)]) (stk' := [aI v1]) (σ' := σ) (g := []) (by decide +kernel) rfl rfl ?_
  refine aw_table (dflt := 118) (lo := 5) (hi := 9) (offs := #[35, 52, 67, 92, 82]) (len := 35) (dt := 119) (by decide +kernel) [(5, 36), (6, 53), (7, 68), (8, 93), (9, 83)] (by decide +kernel) ?_
  refine awsw_cons (fun c1 => ?_) (fun c1 => ?_)
  · rw [if_pos c1] at h
    refine aw_seq [(.aload_n 0, 1, ax0), (.iload_n 2, 1, ax0), (.iconst 2, 1, (axI 2)), (.bipush 9, 2, (axI 9))] (pc' := 41) (L' := [some (aR 8 0 t), some (aI v1), some (aI v2), some (aI v3)]) (stk' := [aI 9, aI 2, aI v2, aR 8 0 t]) (σ' := σ) (g := []) (by decide +kernel) rfl rfl ?_
    obtain ⟨σ2, h1, h⟩ := bndV_some h
    refine aw_cV (P' := pX8_set) (idx := 81) (d' := 1) (c := 8) (n := 0) (k := t) [aI v2, aI 2, aI 9] [] (ov := none) (stk2 := []) okp_X8_set (by decide +kernel) ml_RX8_81 vok_X8_set (by decide) rfl nar_X8_set (by decide) rfl (Nat.le_of_ble_eq_true rfl) (ok_X8_set h1) rfl ?_
    refine aw_seq [(.aload_n 0, 1, ax0), (.iload_n 2, 1, ax0), (.iconst 0, 1, (axI 0))] (pc' := 47) (L' := [some (aR 8 0 t), some (aI v1), some (aI v2), some (aI v3)]) (stk' := [aI 0, aI v2, aR 8 0 t]) (σ' := σ2) (g := []) (by decide +kernel) rfl rfl ?_
    obtain ⟨σ4, h3, h⟩ := bndV_some h
    refine aw_cV (P' := pX8_note) (idx := 85) (d' := 2) (c := 8) (n := 0) (k := t) [aI v2, aI 0] [] (ov := none) (stk2 := []) okp_X8_note (by decide +kernel) ml_RX8_85 vok_X8_note (by decide) rfl nar_X8_note (by decide) rfl (Nat.le_of_ble_eq_true rfl) (ok_X8_note h3) rfl ?_
    refine aw_goto (off := 69) (tgt := 119) (by decide +kernel) (by decide) ?_
    refine aw_forget (L' := [none, none, none, none]) (lsub_n (lsub_n (lsub_n (lsub_n (lsub_0))))) ?_
    exact ok_X8_act_119 σ4 _ h
  rw [if_neg c1] at h
  refine awsw_cons (fun c1 => ?_) (fun c1 => ?_)
  · rw [if_pos c1] at h
    obtain ⟨hg, h⟩ := grd_some h
    refine aw_seq [(.aload_n 0, 1, ax0), (.iload_n 2, 1, ax0), (.iconst 1, 1, (axI 1)), (.aload_n 0, 1, ax0), (.getfield 21, 3, (axF 8 4 (2, 4, 13, some 8))), (.iload_n 2, 1, ax0), (.iaload, 1, ax0)] (pc' := 62) (L' := [some (aR 8 0 t), some (aI v1), some (aI v2), some (aI v3)]) (stk' := [aI (σ.1 (t + 4) (ix v2)), aI 1, aI v2, aR 8 0 t]) (σ' := σ) (g := [inb v2 8]) (by decide +kernel) rfl hg ?_
    obtain ⟨σ6, h5, h⟩ := bndV_some h
    refine aw_cV (P' := pX8_set) (idx := 81) (d' := 1) (c := 8) (n := 0) (k := t) [aI v2, aI 1, aI (σ.1 (t + 4) (ix v2))] [] (ov := none) (stk2 := []) okp_X8_set (by decide +kernel) ml_RX8_81 vok_X8_set (by decide) rfl nar_X8_set (by decide) rfl (Nat.le_of_ble_eq_true rfl) (ok_X8_set h5) rfl ?_
    refine aw_goto (off := 54) (tgt := 119) (by decide +kernel) (by decide) ?_
    refine aw_forget (L' := [none, none, none, none]) (lsub_n (lsub_n (lsub_n (lsub_n (lsub_0))))) ?_
    exact ok_X8_act_119 σ6 _ h
  rw [if_neg c1] at h
  refine awsw_cons (fun c1 => ?_) (fun c1 => ?_)
  · rw [if_pos c1] at h
    obtain ⟨hg, h⟩ := grd_some h
    refine aw_seq [(.aload_n 0, 1, ax0), (.iload_n 2, 1, ax0), (.iconst 2, 1, (axI 2)), (.aload_n 0, 1, ax0), (.getfield 21, 3, (axF 8 4 (2, 4, 13, some 8))), (.iload_n 2, 1, ax0), (.iaload, 1, ax0)] (pc' := 77) (L' := [some (aR 8 0 t), some (aI v1), some (aI v2), some (aI v3)]) (stk' := [aI (σ.1 (t + 4) (ix v2)), aI 2, aI v2, aR 8 0 t]) (σ' := σ) (g := [inb v2 8]) (by decide +kernel) rfl hg ?_
    obtain ⟨σ8, h7, h⟩ := bndV_some h
    refine aw_cV (P' := pX8_set) (idx := 81) (d' := 1) (c := 8) (n := 0) (k := t) [aI v2, aI 2, aI (σ.1 (t + 4) (ix v2))] [] (ov := none) (stk2 := []) okp_X8_set (by decide +kernel) ml_RX8_81 vok_X8_set (by decide) rfl nar_X8_set (by decide) rfl (Nat.le_of_ble_eq_true rfl) (ok_X8_set h7) rfl ?_
    refine aw_goto (off := 39) (tgt := 119) (by decide +kernel) (by decide) ?_
    refine aw_forget (L' := [none, none, none, none]) (lsub_n (lsub_n (lsub_n (lsub_n (lsub_0))))) ?_
    exact ok_X8_act_119 σ8 _ h
  rw [if_neg c1] at h
  refine awsw_cons (fun c1 => ?_) (fun c1 => ?_)
  · rw [if_pos c1] at h
    obtain ⟨hg, h⟩ := grd_some h
    obtain ⟨σ9, e10, h⟩ := ltσ_some h
    refine aw_seq [(.aload_n 0, 1, ax0), (.getfield 21, 3, (axF 8 4 (2, 4, 13, some 8))), (.iload_n 3, 1, ax0), (.dup2, 1, ax0), (.iaload, 1, ax0), (.iconst 1, 1, (axI 1)), (.isub, 1, ax0), (.iastore, 1, ax0)] (pc' := 103) (L' := [some (aR 8 0 t), some (aI v1), some (aI v2), some (aI v3)]) (stk' := []) (σ' := σ9) (g := [inb v3 8, inb v3 8]) (by decide +kernel) (by rw [e10]; rfl) hg ?_
    refine aw_seq [(.aload_n 0, 1, ax0), (.iload_n 2, 1, ax0), (.iconst 2, 1, (axI 2)), (.iconst 5, 1, (axI 5))] (pc' := 107) (L' := [some (aR 8 0 t), some (aI v1), some (aI v2), some (aI v3)]) (stk' := [aI 5, aI 2, aI v2, aR 8 0 t]) (σ' := σ9) (g := []) (by decide +kernel) rfl rfl ?_
    obtain ⟨σ12, h11, h⟩ := bndV_some h
    refine aw_cV (P' := pX8_set) (idx := 81) (d' := 1) (c := 8) (n := 0) (k := t) [aI v2, aI 2, aI 5] [] (ov := none) (stk2 := []) okp_X8_set (by decide +kernel) ml_RX8_81 vok_X8_set (by decide) rfl nar_X8_set (by decide) rfl (Nat.le_of_ble_eq_true rfl) (ok_X8_set h11) rfl ?_
    refine aw_seq [(.aload_n 0, 1, ax0), (.iload_n 2, 1, ax0), (.iconst 1, 1, (axI 1))] (pc' := 113) (L' := [some (aR 8 0 t), some (aI v1), some (aI v2), some (aI v3)]) (stk' := [aI 1, aI v2, aR 8 0 t]) (σ' := σ12) (g := []) (by decide +kernel) rfl rfl ?_
    obtain ⟨σ14, h13, h⟩ := bndV_some h
    refine aw_cV (P' := pX8_note) (idx := 85) (d' := 2) (c := 8) (n := 0) (k := t) [aI v2, aI 1] [] (ov := none) (stk2 := []) okp_X8_note (by decide +kernel) ml_RX8_85 vok_X8_note (by decide) rfl nar_X8_note (by decide) rfl (Nat.le_of_ble_eq_true rfl) (ok_X8_note h13) rfl ?_
    refine aw_goto (off := 3) (tgt := 119) (by decide +kernel) (by decide) ?_
    refine aw_forget (L' := [none, none, none, none]) (lsub_n (lsub_n (lsub_n (lsub_n (lsub_0))))) ?_
    exact ok_X8_act_119 σ14 _ h
  rw [if_neg c1] at h
  refine awsw_cons (fun c1 => ?_) (fun c1 => ?_)
  · rw [if_pos c1] at h
    refine aw_seq [(.aload_n 0, 1, ax0), (.iload_n 2, 1, ax0), (.iconst 0, 1, (axI 0)), (.iconst 0, 1, (axI 0))] (pc' := 87) (L' := [some (aR 8 0 t), some (aI v1), some (aI v2), some (aI v3)]) (stk' := [aI 0, aI 0, aI v2, aR 8 0 t]) (σ' := σ) (g := []) (by decide +kernel) rfl rfl ?_
    obtain ⟨σ16, h15, h⟩ := bndV_some h
    refine aw_cV (P' := pX8_set) (idx := 81) (d' := 1) (c := 8) (n := 0) (k := t) [aI v2, aI 0, aI 0] [] (ov := none) (stk2 := []) okp_X8_set (by decide +kernel) ml_RX8_81 vok_X8_set (by decide) rfl nar_X8_set (by decide) rfl (Nat.le_of_ble_eq_true rfl) (ok_X8_set h15) rfl ?_
    refine aw_goto (off := 29) (tgt := 119) (by decide +kernel) (by decide) ?_
    refine aw_forget (L' := [none, none, none, none]) (lsub_n (lsub_n (lsub_n (lsub_n (lsub_0))))) ?_
    exact ok_X8_act_119 σ16 _ h
  rw [if_neg c1] at h
  refine awsw_nil ?_
  refine aw_forget (L' := [none, none, none, none]) (lsub_n (lsub_n (lsub_n (lsub_n (lsub_0))))) ?_
  exact ok_X8_act_119 σ _ h
def f_X8_keeps_25 (t : Nat)  (s0 : Int32) (σ : Sg) : Option (Int32 × Sg) :=
  grd (bz s0) <| some (s0, σ)
set_option maxRecDepth 100000 in
set_option maxHeartbeats 4000000 in
theorem ok_X8_keeps_25 {κ : Kd} {t : Nat}   : ∀ (s0 : Int32) (σ : Sg) (q : (Int32 × Sg)), f_X8_keeps_25 t s0 σ = some q → AW κ pX8_keeps 1 (some (aI q.1), q.2) 25 [none, none] [aI s0] σ := by
  intro s0 σ q h
  unfold f_X8_keeps_25 at h
  obtain ⟨hg, h⟩ := grd_some h
  cases h
  exact aw_zret rfl hg (by decide +kernel)
def f_X8_keeps_20 (t : Nat)   (σ : Sg) : Option (Int32 × Sg) :=
  f_X8_keeps_25 t 1 σ
set_option maxRecDepth 100000 in
set_option maxHeartbeats 4000000 in
theorem ok_X8_keeps_20 {κ : Kd} {t : Nat}   : ∀  (σ : Sg) (q : (Int32 × Sg)), f_X8_keeps_20 t  σ = some q → AW κ pX8_keeps 1 (some (aI q.1), q.2) 20 [none, none] [] σ := by
  intro  σ q h
  unfold f_X8_keeps_20 at h
  refine aw_seq [(.iconst 1, 1, (axI 1))] (pc' := 21) (L' := [none, none]) (stk' := [aI 1]) (σ' := σ) (g := []) (by decide +kernel) rfl rfl ?_
  refine aw_goto (off := 4) (tgt := 25) (by decide +kernel) (by decide) ?_
  refine aw_forget (L' := [none, none]) (lsub_n (lsub_n (lsub_0))) ?_
  exact ok_X8_keeps_25 1 σ _ h
def f_X8_keeps (t : Nat) (v1 : Int32) (σ : Sg) : Option (Int32 × Sg) :=
  grd (inb v1 8 && true) <|
  if (σ.1 (t + 3) (ix v1)) = 1 then (
    f_X8_keeps_20 t σ
  ) else (
    grd (inb v1 8 && true) <|
    if (σ.1 (t + 3) (ix v1)) = 2 then (
      f_X8_keeps_20 t σ
    ) else (
      f_X8_keeps_25 t 0 σ
    )
  )
set_option maxRecDepth 100000 in
set_option maxHeartbeats 4000000 in
theorem ok_X8_keeps {κ : Kd} {t : Nat} {v1 : Int32} {σ : Sg} {q : (Int32 × Sg)} (h : f_X8_keeps t v1 σ = some q) : AMet κ pX8_keeps 1 [aR 8 0 t, aI v1] σ (some (aI q.1), q.2) := by
  unfold f_X8_keeps at h
  refine amet_of okp_X8_keeps [(false, aR 8 0 t), (false, aI v1)] (List.forall_mem_cons.mpr ⟨rfl, List.forall_mem_cons.mpr ⟨rfl, (fun _ hn => absurd hn List.not_mem_nil)⟩⟩) 0 rfl ?_
  show AW κ pX8_keeps 1 (some (aI q.1), q.2) 0 [some (aR 8 0 t), some (aI v1)] [] σ
  obtain ⟨hg, h⟩ := grd_some h
  refine aw_seq [(.aload_n 0, 1, ax0), (.getfield 18, 3, (axF 8 3 (2, 3, 13, some 8))), (.iload_n 1, 1, ax0), (.iaload, 1, ax0), (.iconst 1, 1, (axI 1))] (pc' := 7) (L' := [some (aR 8 0 t), some (aI v1)]) (stk' := [aI 1, aI (σ.1 (t + 3) (ix v1))]) (σ' := σ) (g := [inb v1 8]) (by decide +kernel) rfl hg ?_
  refine aw_icmp_eq (off := 13) (tgt := 20) (by decide +kernel) (by decide) (fun c1 => ?_) (fun c1 => ?_)
  · rw [if_pos c1] at h
    refine aw_forget (L' := [none, none]) (lsub_n (lsub_n (lsub_0))) ?_
    exact ok_X8_keeps_20 σ _ h
  · rw [if_neg c1] at h
    obtain ⟨hg, h⟩ := grd_some h
    refine aw_seq [(.aload_n 0, 1, ax0), (.getfield 18, 3, (axF 8 3 (2, 3, 13, some 8))), (.iload_n 1, 1, ax0), (.iaload, 1, ax0), (.iconst 2, 1, (axI 2))] (pc' := 17) (L' := [some (aR 8 0 t), some (aI v1)]) (stk' := [aI 2, aI (σ.1 (t + 3) (ix v1))]) (σ' := σ) (g := [inb v1 8]) (by decide +kernel) rfl hg ?_
    refine aw_icmp_ne (off := 7) (tgt := 24) (by decide +kernel) (by decide) (fun c1 => ?_) (fun c1 => ?_)
    · rw [if_neg c1] at h
      refine aw_seq [(.iconst 0, 1, (axI 0))] (pc' := 25) (L' := [some (aR 8 0 t), some (aI v1)]) (stk' := [aI 0]) (σ' := σ) (g := []) (by decide +kernel) rfl rfl ?_
      refine aw_forget (L' := [none, none]) (lsub_n (lsub_n (lsub_0))) ?_
      exact ok_X8_keeps_25 0 σ _ h
    · rw [if_pos c1] at h
      refine aw_forget (L' := [none, none]) (lsub_n (lsub_n (lsub_0))) ?_
      exact ok_X8_keeps_20 σ _ h
def f_X8_mayGive_36 (t : Nat) (rec_4 : Int32 → Int32 → Sg → Option (Int32 × Sg)) (v1 : Int32) (v2 : Int32) (σ : Sg) : Option (Int32 × Sg) :=
  rec_4 v1 (v2 + 1) σ
set_option maxRecDepth 100000 in
set_option maxHeartbeats 4000000 in
theorem ok_X8_mayGive_36 {κ : Kd} {t : Nat}  {rec_4 : Int32 → Int32 → Sg → Option (Int32 × Sg)} (hrec_4 : ∀ (v1 : Int32) (v2 : Int32) (σ : Sg) (q : (Int32 × Sg)), rec_4 v1 v2 σ = some q → AW κ pX8_mayGive 2 (some (aI q.1), q.2) 4 [some (aR 8 0 t), some (aI v1), some (aI v2)] [] σ) : ∀ (v1 : Int32) (v2 : Int32) (σ : Sg) (q : (Int32 × Sg)), f_X8_mayGive_36 t rec_4 v1 v2 σ = some q → AW κ pX8_mayGive 2 (some (aI q.1), q.2) 36 [some (aR 8 0 t), some (aI v1), some (aI v2)] [] σ := by
  intro v1 v2 σ q h
  unfold f_X8_mayGive_36 at h
  refine aw_seq [(.iinc 2 1, 3, (axI 1))] (pc' := 39) (L' := [some (aR 8 0 t), some (aI v1), some (aI (v2 + 1))]) (stk' := []) (σ' := σ) (g := []) (by decide +kernel) rfl rfl ?_
  refine aw_goto (off := (-35)) (tgt := 4) (by decide +kernel) (by decide) ?_
  refine aw_forget (L' := [some (aR 8 0 t), some (aI v1), some (aI (v2 + 1))]) (lsub_s (lsub_s (lsub_s (lsub_0)))) ?_
  exact hrec_4 v1 (v2 + 1) σ _ h
def f_X8_mayGive_4 (t : Nat)  : Nat → Int32 → Int32 → Sg → Option (Int32 × Sg)
  | 0, _, _, _ => none
  | fu + 1, v1, v2, σ =>
    if (σ.1 t 0) ≤ v2 then (
      some (v1, σ)
    ) else (
      bnd (f_X8_keeps t v2 σ) fun r3 σ2 =>
      if r3 = 0 then (
        f_X8_mayGive_36 t (f_X8_mayGive_4 t fu) v1 v2 σ2
      ) else (
        grd (inb v2 8 && true) <|
        if (σ2.1 (t + 4) (ix v2)) < 2 then (
          f_X8_mayGive_36 t (f_X8_mayGive_4 t fu) v1 v2 σ2
        ) else (
          f_X8_mayGive_36 t (f_X8_mayGive_4 t fu) (v1 ||| (shl 1 v2)) v2 σ2
        )
      )
    )
set_option maxRecDepth 100000 in
set_option maxHeartbeats 4000000 in
theorem ok_X8_mayGive_4 {κ : Kd} {t : Nat}   : ∀ (fu : Nat) (v1 : Int32) (v2 : Int32) (σ : Sg) (q : (Int32 × Sg)), f_X8_mayGive_4 t fu v1 v2 σ = some q → AW κ pX8_mayGive 2 (some (aI q.1), q.2) 4 [some (aR 8 0 t), some (aI v1), some (aI v2)] [] σ := by
  intro fu
  induction fu with
  | zero =>
    intro v1 v2 σ q h
    unfold f_X8_mayGive_4 at h
    cases h
  | succ fu ih =>
    intro v1 v2 σ q h
    unfold f_X8_mayGive_4 at h
    refine aw_seq [(.iload_n 2, 1, ax0), (.aload_n 0, 1, ax0), (.getfield 31, 3, (axF 8 0 (0, 0, 0, none)))] (pc' := 9) (L' := [some (aR 8 0 t), some (aI v1), some (aI v2)]) (stk' := [aI (σ.1 t 0), aI v2]) (σ' := σ) (g := []) (by decide +kernel) rfl rfl ?_
    refine aw_icmp_ge (off := 33) (tgt := 42) (by decide +kernel) (by decide) (fun c1 => ?_) (fun c1 => ?_)
    · rw [if_pos c1] at h
      refine aw_seq [(.iload_n 1, 1, ax0)] (pc' := 43) (L' := [some (aR 8 0 t), some (aI v1), some (aI v2)]) (stk' := [aI v1]) (σ' := σ) (g := []) (by decide +kernel) rfl rfl ?_
      cases h
      exact aw_iret rfl (by decide +kernel)
    · rw [if_neg c1] at h
      refine aw_seq [(.aload_n 0, 1, ax0), (.iload_n 2, 1, ax0)] (pc' := 14) (L' := [some (aR 8 0 t), some (aI v1), some (aI v2)]) (stk' := [aI v2, aR 8 0 t]) (σ' := σ) (g := []) (by decide +kernel) rfl rfl ?_
      obtain ⟨r3, σ2, h1, h⟩ := bnd_some h
      refine aw_cV (P' := pX8_keeps) (idx := 66) (d' := 1) (c := 8) (n := 0) (k := t) [aI v2] [] (ov := (some (aI r3))) (stk2 := [aI r3]) okp_X8_keeps (by decide +kernel) ml_RX8_66 vok_X8_keeps (by decide) rfl nar_X8_keeps (by decide) rfl (Nat.le_of_ble_eq_true rfl) (ok_X8_keeps h1) rfl ?_
      refine aw_if_eq (off := 19) (tgt := 36) (by decide +kernel) (by decide) (fun c1 => ?_) (fun c1 => ?_)
      · rw [if_pos c1] at h
        refine aw_forget (L' := [some (aR 8 0 t), some (aI v1), some (aI v2)]) (lsub_s (lsub_s (lsub_s (lsub_0)))) ?_
        exact ok_X8_mayGive_36 ih v1 v2 σ2 _ h
      · rw [if_neg c1] at h
        obtain ⟨hg, h⟩ := grd_some h
        refine aw_seq [(.aload_n 0, 1, ax0), (.getfield 21, 3, (axF 8 4 (2, 4, 13, some 8))), (.iload_n 2, 1, ax0), (.iaload, 1, ax0), (.iconst 2, 1, (axI 2))] (pc' := 27) (L' := [some (aR 8 0 t), some (aI v1), some (aI v2)]) (stk' := [aI 2, aI (σ2.1 (t + 4) (ix v2))]) (σ' := σ2) (g := [inb v2 8]) (by decide +kernel) rfl hg ?_
        refine aw_icmp_lt (off := 9) (tgt := 36) (by decide +kernel) (by decide) (fun c1 => ?_) (fun c1 => ?_)
        · rw [if_pos c1] at h
          refine aw_forget (L' := [some (aR 8 0 t), some (aI v1), some (aI v2)]) (lsub_s (lsub_s (lsub_s (lsub_0)))) ?_
          exact ok_X8_mayGive_36 ih v1 v2 σ2 _ h
        · rw [if_neg c1] at h
          refine aw_seq [(.iload_n 1, 1, ax0), (.iconst 1, 1, (axI 1)), (.iload_n 2, 1, ax0), (.ishl, 1, ax0), (.ior, 1, ax0), (.istore_n 1, 1, ax0)] (pc' := 36) (L' := [some (aR 8 0 t), some (aI (v1 ||| (shl 1 v2))), some (aI v2)]) (stk' := []) (σ' := σ2) (g := []) (by decide +kernel) rfl rfl ?_
          refine aw_forget (L' := [some (aR 8 0 t), some (aI (v1 ||| (shl 1 v2))), some (aI v2)]) (lsub_s (lsub_s (lsub_s (lsub_0)))) ?_
          exact ok_X8_mayGive_36 ih (v1 ||| (shl 1 v2)) v2 σ2 _ h
def f_X8_mayGive (t : Nat) (σ : Sg) : Option (Int32 × Sg) :=
  f_X8_mayGive_4 t FU 0 0 σ
set_option maxRecDepth 100000 in
set_option maxHeartbeats 4000000 in
theorem ok_X8_mayGive {κ : Kd} {t : Nat} {σ : Sg} {q : (Int32 × Sg)} (h : f_X8_mayGive t σ = some q) : AMet κ pX8_mayGive 2 [aR 8 0 t] σ (some (aI q.1), q.2) := by
  unfold f_X8_mayGive at h
  refine amet_of okp_X8_mayGive [(false, aR 8 0 t)] (List.forall_mem_cons.mpr ⟨rfl, (fun _ hn => absurd hn List.not_mem_nil)⟩) 2 rfl ?_
  show AW κ pX8_mayGive 2 (some (aI q.1), q.2) 0 [some (aR 8 0 t), none, none] [] σ
  refine aw_seq [(.iconst 0, 1, (axI 0)), (.istore_n 1, 1, ax0), (.iconst 0, 1, (axI 0)), (.istore_n 2, 1, ax0)] (pc' := 4) (L' := [some (aR 8 0 t), some (aI 0), some (aI 0)]) (stk' := []) (σ' := σ) (g := []) (by decide +kernel) rfl rfl ?_
  refine aw_forget (L' := [some (aR 8 0 t), some (aI 0), some (aI 0)]) (lsub_s (lsub_s (lsub_s (lsub_0)))) ?_
  exact ok_X8_mayGive_4 FU 0 0 σ _ h
def f_X8_can_58 (t : Nat) (s : Nat)  (s0 : Int32) (σ : Sg) : Option (Int32 × Sg) :=
  grd (bz s0) <| some (s0, σ)
set_option maxRecDepth 100000 in
set_option maxHeartbeats 4000000 in
theorem ok_X8_can_58 {κ : Kd} {t : Nat} {s : Nat}   : ∀ (s0 : Int32) (σ : Sg) (q : (Int32 × Sg)), f_X8_can_58 t s s0 σ = some q → AW κ pX8_can 3 (some (aI q.1), q.2) 58 [none, none, none, none, none] [aI s0] σ := by
  intro s0 σ q h
  unfold f_X8_can_58 at h
  obtain ⟨hg, h⟩ := grd_some h
  cases h
  exact aw_zret rfl hg (by decide +kernel)
def f_X8_can_74 (t : Nat) (s : Nat)  (s0 : Int32) (σ : Sg) : Option (Int32 × Sg) :=
  grd (bz s0) <| some (s0, σ)
set_option maxRecDepth 100000 in
set_option maxHeartbeats 4000000 in
theorem ok_X8_can_74 {κ : Kd} {t : Nat} {s : Nat}   : ∀ (s0 : Int32) (σ : Sg) (q : (Int32 × Sg)), f_X8_can_74 t s s0 σ = some q → AW κ pX8_can 3 (some (aI q.1), q.2) 74 [none, none, none, none, none] [aI s0] σ := by
  intro s0 σ q h
  unfold f_X8_can_74 at h
  obtain ⟨hg, h⟩ := grd_some h
  cases h
  exact aw_zret rfl hg (by decide +kernel)
def f_X8_can_90 (t : Nat) (s : Nat)  (s0 : Int32) (σ : Sg) : Option (Int32 × Sg) :=
  grd (bz s0) <| some (s0, σ)
set_option maxRecDepth 100000 in
set_option maxHeartbeats 4000000 in
theorem ok_X8_can_90 {κ : Kd} {t : Nat} {s : Nat}   : ∀ (s0 : Int32) (σ : Sg) (q : (Int32 × Sg)), f_X8_can_90 t s s0 σ = some q → AW κ pX8_can 3 (some (aI q.1), q.2) 90 [none, none, none, none, none] [aI s0] σ := by
  intro s0 σ q h
  unfold f_X8_can_90 at h
  obtain ⟨hg, h⟩ := grd_some h
  cases h
  exact aw_zret rfl hg (by decide +kernel)
def f_X8_can_148 (t : Nat) (s : Nat)  (s0 : Int32) (σ : Sg) : Option (Int32 × Sg) :=
  grd (bz s0) <| some (s0, σ)
set_option maxRecDepth 100000 in
set_option maxHeartbeats 4000000 in
theorem ok_X8_can_148 {κ : Kd} {t : Nat} {s : Nat}   : ∀ (s0 : Int32) (σ : Sg) (q : (Int32 × Sg)), f_X8_can_148 t s s0 σ = some q → AW κ pX8_can 3 (some (aI q.1), q.2) 148 [none, none, none, none, none] [aI s0] σ := by
  intro s0 σ q h
  unfold f_X8_can_148 at h
  obtain ⟨hg, h⟩ := grd_some h
  cases h
  exact aw_zret rfl hg (by decide +kernel)
def f_X8_can_147 (t : Nat) (s : Nat)   (σ : Sg) : Option (Int32 × Sg) :=
  f_X8_can_148 t s 0 σ
set_option maxRecDepth 100000 in
set_option maxHeartbeats 4000000 in
theorem ok_X8_can_147 {κ : Kd} {t : Nat} {s : Nat}   : ∀  (σ : Sg) (q : (Int32 × Sg)), f_X8_can_147 t s  σ = some q → AW κ pX8_can 3 (some (aI q.1), q.2) 147 [none, none, none, none, none] [] σ := by
  intro  σ q h
  unfold f_X8_can_147 at h
  refine aw_seq [(.iconst 0, 1, (axI 0))] (pc' := 148) (L' := [none, none, none, none, none]) (stk' := [aI 0]) (σ' := σ) (g := []) (by decide +kernel) rfl rfl ?_
  refine aw_forget (L' := [none, none, none, none, none]) (lsub_n (lsub_n (lsub_n (lsub_n (lsub_n (lsub_0)))))) ?_
  exact ok_X8_can_148 0 σ _ h
def f_X8_can_106 (t : Nat) (s : Nat)  (s0 : Int32) (σ : Sg) : Option (Int32 × Sg) :=
  grd (bz s0) <| some (s0, σ)
set_option maxRecDepth 100000 in
set_option maxHeartbeats 4000000 in
theorem ok_X8_can_106 {κ : Kd} {t : Nat} {s : Nat}   : ∀ (s0 : Int32) (σ : Sg) (q : (Int32 × Sg)), f_X8_can_106 t s s0 σ = some q → AW κ pX8_can 3 (some (aI q.1), q.2) 106 [none, none, none, none, none] [aI s0] σ := by
  intro s0 σ q h
  unfold f_X8_can_106 at h
  obtain ⟨hg, h⟩ := grd_some h
  cases h
  exact aw_zret rfl hg (by decide +kernel)
def f_X8_can (t : Nat) (v1 : Int32) (v2 : Int32) (v3 : Int32) (s : Nat) (σ : Sg) : Option (Int32 × Sg) :=
  bnd (f_X8_told t v2 σ) fun r3 σ2 =>
  if r3 = 0 then (
    some (0, σ2)
  ) else (
    if v1 = 5 then (
      grd (inb v2 8 && true) <|
      if (σ2.1 (t + 3) (ix v2)) = 0 then (
        f_X8_can_58 t s 1 σ2
      ) else (
        f_X8_can_58 t s 0 σ2
      )
    ) else (
    if v1 = 6 then (
      grd (inb v2 8 && true) <|
      if (σ2.1 (t + 3) (ix v2)) = 2 then (
        f_X8_can_74 t s 1 σ2
      ) else (
        f_X8_can_74 t s 0 σ2
      )
    ) else (
    if v1 = 7 then (
      grd (inb v2 8 && true) <|
      if (σ2.1 (t + 3) (ix v2)) = 1 then (
        f_X8_can_90 t s 1 σ2
      ) else (
        f_X8_can_90 t s 0 σ2
      )
    ) else (
    if v1 = 8 then (
      grd (inb v2 8 && true) <|
      if (σ2.1 (t + 3) (ix v2)) = 0 then (
        bnd (f_X8_told t v3 σ2) fun r6 σ5 =>
        if r6 = 0 then (
          f_X8_can_147 t s σ5
        ) else (
          grd (inb v2 8 && true) <|
          bnd (f_X8_mayGive t σ5) fun r9 σ8 =>
          if (((σ5.1 (s + 2) (ix v2)) &&& r9) &&& (shl 1 v3)) = 0 then (
            f_X8_can_147 t s σ8
          ) else (
            f_X8_can_148 t s 1 σ8
          )
        )
      ) else (
        f_X8_can_147 t s σ2
      )
    ) else (
    if v1 = 9 then (
      grd (inb v2 8 && true) <|
      if (σ2.1 (t + 3) (ix v2)) = 3 then (
        f_X8_can_106 t s 1 σ2
      ) else (
        f_X8_can_106 t s 0 σ2
      )
    ) else (
      some (0, σ2)
    )))))
  )
set_option maxRecDepth 100000 in
set_option maxHeartbeats 4000000 in
theorem ok_X8_can {κ : Kd} {t : Nat} {v1 : Int32} {v2 : Int32} {v3 : Int32} {s : Nat} {σ : Sg} {q : (Int32 × Sg)} (h : f_X8_can t v1 v2 v3 s σ = some q) : AMet κ pX8_can 3 [aR 8 0 t, aI v1, aI v2, aI v3, aR 5 0 s] σ (some (aI q.1), q.2) := by
  unfold f_X8_can at h
  refine amet_of okp_X8_can [(false, aR 8 0 t), (false, aI v1), (false, aI v2), (false, aI v3), (false, aR 5 0 s)] (List.forall_mem_cons.mpr ⟨rfl, List.forall_mem_cons.mpr ⟨rfl, List.forall_mem_cons.mpr ⟨rfl, List.forall_mem_cons.mpr ⟨rfl, List.forall_mem_cons.mpr ⟨rfl, (fun _ hn => absurd hn List.not_mem_nil)⟩⟩⟩⟩⟩) 0 rfl ?_
  show AW κ pX8_can 3 (some (aI q.1), q.2) 0 [some (aR 8 0 t), some (aI v1), some (aI v2), some (aI v3), some (aR 5 0 s)] [] σ
  refine aw_seq [(.aload_n 0, 1, ax0), (.iload_n 2, 1, ax0)] (pc' := 2) (L' := [some (aR 8 0 t), some (aI v1), some (aI v2), some (aI v3), some (aR 5 0 s)]) (stk' := [aI v2, aR 8 0 t]) (σ' := σ) (g := []) (by decide +kernel) rfl rfl ?_
  obtain ⟨r3, σ2, h1, h⟩ := bnd_some h
  refine aw_cV (P' := pX8_told) (idx := 70) (d' := 1) (c := 8) (n := 0) (k := t) [aI v2] [] (ov := (some (aI r3))) (stk2 := [aI r3]) okp_X8_told (by decide +kernel) ml_RX8_70 vok_X8_told (by decide) rfl nar_X8_told (by decide) rfl (Nat.le_of_ble_eq_true rfl) (ok_X8_told h1) rfl ?_
  refine aw_if_ne (off := 5) (tgt := 10) (by decide +kernel) (by decide) (fun c1 => ?_) (fun c1 => ?_)
  · rw [if_neg c1] at h
    refine aw_seq [(.iload_n 1, 1, ax0)] (pc' := 11) (L' := [some (aR 8 0 t), some (aI v1), some (aI v2), some (aI v3), some (aR 5 0 s)]) (stk' := [aI v1]) (σ' := σ2) (g := []) (by decide +kernel) rfl rfl ?_
    refine aw_table (dflt := 138) (lo := 5) (hi := 9) (offs := #[33, 48, 64, 96, 80]) (len := 33) (dt := 149) (by decide +kernel) [(5, 44), (6, 59), (7, 75), (8, 107), (9, 91)] (by decide +kernel) ?_
    refine awsw_cons (fun c1 => ?_) (fun c1 => ?_)
    · rw [if_pos c1] at h
      obtain ⟨hg, h⟩ := grd_some h
      refine aw_seq [(.aload_n 0, 1, ax0), (.getfield 18, 3, (axF 8 3 (2, 3, 13, some 8))), (.iload_n 2, 1, ax0), (.iaload, 1, ax0)] (pc' := 50) (L' := [some (aR 8 0 t), some (aI v1), some (aI v2), some (aI v3), some (aR 5 0 s)]) (stk' := [aI (σ2.1 (t + 3) (ix v2))]) (σ' := σ2) (g := [inb v2 8]) (by decide +kernel) rfl hg ?_
      refine aw_if_ne (off := 7) (tgt := 57) (by decide +kernel) (by decide) (fun c1 => ?_) (fun c1 => ?_)
      · rw [if_neg c1] at h
        refine aw_seq [(.iconst 0, 1, (axI 0))] (pc' := 58) (L' := [some (aR 8 0 t), some (aI v1), some (aI v2), some (aI v3), some (aR 5 0 s)]) (stk' := [aI 0]) (σ' := σ2) (g := []) (by decide +kernel) rfl rfl ?_
        refine aw_forget (L' := [none, none, none, none, none]) (lsub_n (lsub_n (lsub_n (lsub_n (lsub_n (lsub_0)))))) ?_
        exact ok_X8_can_58 0 σ2 _ h
      · rw [if_pos c1] at h
        refine aw_seq [(.iconst 1, 1, (axI 1))] (pc' := 54) (L' := [some (aR 8 0 t), some (aI v1), some (aI v2), some (aI v3), some (aR 5 0 s)]) (stk' := [aI 1]) (σ' := σ2) (g := []) (by decide +kernel) rfl rfl ?_
        refine aw_goto (off := 4) (tgt := 58) (by decide +kernel) (by decide) ?_
        refine aw_forget (L' := [none, none, none, none, none]) (lsub_n (lsub_n (lsub_n (lsub_n (lsub_n (lsub_0)))))) ?_
        exact ok_X8_can_58 1 σ2 _ h
    rw [if_neg c1] at h
    refine awsw_cons (fun c1 => ?_) (fun c1 => ?_)
    · rw [if_pos c1] at h
      obtain ⟨hg, h⟩ := grd_some h
      refine aw_seq [(.aload_n 0, 1, ax0), (.getfield 18, 3, (axF 8 3 (2, 3, 13, some 8))), (.iload_n 2, 1, ax0), (.iaload, 1, ax0), (.iconst 2, 1, (axI 2))] (pc' := 66) (L' := [some (aR 8 0 t), some (aI v1), some (aI v2), some (aI v3), some (aR 5 0 s)]) (stk' := [aI 2, aI (σ2.1 (t + 3) (ix v2))]) (σ' := σ2) (g := [inb v2 8]) (by decide +kernel) rfl hg ?_
      refine aw_icmp_ne (off := 7) (tgt := 73) (by decide +kernel) (by decide) (fun c1 => ?_) (fun c1 => ?_)
      · rw [if_neg c1] at h
        refine aw_seq [(.iconst 0, 1, (axI 0))] (pc' := 74) (L' := [some (aR 8 0 t), some (aI v1), some (aI v2), some (aI v3), some (aR 5 0 s)]) (stk' := [aI 0]) (σ' := σ2) (g := []) (by decide +kernel) rfl rfl ?_
        refine aw_forget (L' := [none, none, none, none, none]) (lsub_n (lsub_n (lsub_n (lsub_n (lsub_n (lsub_0)))))) ?_
        exact ok_X8_can_74 0 σ2 _ h
      · rw [if_pos c1] at h
        refine aw_seq [(.iconst 1, 1, (axI 1))] (pc' := 70) (L' := [some (aR 8 0 t), some (aI v1), some (aI v2), some (aI v3), some (aR 5 0 s)]) (stk' := [aI 1]) (σ' := σ2) (g := []) (by decide +kernel) rfl rfl ?_
        refine aw_goto (off := 4) (tgt := 74) (by decide +kernel) (by decide) ?_
        refine aw_forget (L' := [none, none, none, none, none]) (lsub_n (lsub_n (lsub_n (lsub_n (lsub_n (lsub_0)))))) ?_
        exact ok_X8_can_74 1 σ2 _ h
    rw [if_neg c1] at h
    refine awsw_cons (fun c1 => ?_) (fun c1 => ?_)
    · rw [if_pos c1] at h
      obtain ⟨hg, h⟩ := grd_some h
      refine aw_seq [(.aload_n 0, 1, ax0), (.getfield 18, 3, (axF 8 3 (2, 3, 13, some 8))), (.iload_n 2, 1, ax0), (.iaload, 1, ax0), (.iconst 1, 1, (axI 1))] (pc' := 82) (L' := [some (aR 8 0 t), some (aI v1), some (aI v2), some (aI v3), some (aR 5 0 s)]) (stk' := [aI 1, aI (σ2.1 (t + 3) (ix v2))]) (σ' := σ2) (g := [inb v2 8]) (by decide +kernel) rfl hg ?_
      refine aw_icmp_ne (off := 7) (tgt := 89) (by decide +kernel) (by decide) (fun c1 => ?_) (fun c1 => ?_)
      · rw [if_neg c1] at h
        refine aw_seq [(.iconst 0, 1, (axI 0))] (pc' := 90) (L' := [some (aR 8 0 t), some (aI v1), some (aI v2), some (aI v3), some (aR 5 0 s)]) (stk' := [aI 0]) (σ' := σ2) (g := []) (by decide +kernel) rfl rfl ?_
        refine aw_forget (L' := [none, none, none, none, none]) (lsub_n (lsub_n (lsub_n (lsub_n (lsub_n (lsub_0)))))) ?_
        exact ok_X8_can_90 0 σ2 _ h
      · rw [if_pos c1] at h
        refine aw_seq [(.iconst 1, 1, (axI 1))] (pc' := 86) (L' := [some (aR 8 0 t), some (aI v1), some (aI v2), some (aI v3), some (aR 5 0 s)]) (stk' := [aI 1]) (σ' := σ2) (g := []) (by decide +kernel) rfl rfl ?_
        refine aw_goto (off := 4) (tgt := 90) (by decide +kernel) (by decide) ?_
        refine aw_forget (L' := [none, none, none, none, none]) (lsub_n (lsub_n (lsub_n (lsub_n (lsub_n (lsub_0)))))) ?_
        exact ok_X8_can_90 1 σ2 _ h
    rw [if_neg c1] at h
    refine awsw_cons (fun c1 => ?_) (fun c1 => ?_)
    · rw [if_pos c1] at h
      obtain ⟨hg, h⟩ := grd_some h
      refine aw_seq [(.aload_n 0, 1, ax0), (.getfield 18, 3, (axF 8 3 (2, 3, 13, some 8))), (.iload_n 2, 1, ax0), (.iaload, 1, ax0)] (pc' := 113) (L' := [some (aR 8 0 t), some (aI v1), some (aI v2), some (aI v3), some (aR 5 0 s)]) (stk' := [aI (σ2.1 (t + 3) (ix v2))]) (σ' := σ2) (g := [inb v2 8]) (by decide +kernel) rfl hg ?_
      refine aw_if_ne (off := 34) (tgt := 147) (by decide +kernel) (by decide) (fun c1 => ?_) (fun c1 => ?_)
      · rw [if_neg c1] at h
        refine aw_forget (L' := [none, none, none, none, none]) (lsub_n (lsub_n (lsub_n (lsub_n (lsub_n (lsub_0)))))) ?_
        exact ok_X8_can_147 σ2 _ h
      · rw [if_pos c1] at h
        refine aw_seq [(.aload_n 0, 1, ax0), (.iload_n 3, 1, ax0)] (pc' := 118) (L' := [some (aR 8 0 t), some (aI v1), some (aI v2), some (aI v3), some (aR 5 0 s)]) (stk' := [aI v3, aR 8 0 t]) (σ' := σ2) (g := []) (by decide +kernel) rfl rfl ?_
        obtain ⟨r6, σ5, h4, h⟩ := bnd_some h
        refine aw_cV (P' := pX8_told) (idx := 70) (d' := 1) (c := 8) (n := 0) (k := t) [aI v3] [] (ov := (some (aI r6))) (stk2 := [aI r6]) okp_X8_told (by decide +kernel) ml_RX8_70 vok_X8_told (by decide) rfl nar_X8_told (by decide) rfl (Nat.le_of_ble_eq_true rfl) (ok_X8_told h4) rfl ?_
        refine aw_if_eq (off := 26) (tgt := 147) (by decide +kernel) (by decide) (fun c1 => ?_) (fun c1 => ?_)
        · rw [if_pos c1] at h
          refine aw_forget (L' := [none, none, none, none, none]) (lsub_n (lsub_n (lsub_n (lsub_n (lsub_n (lsub_0)))))) ?_
          exact ok_X8_can_147 σ5 _ h
        · rw [if_neg c1] at h
          obtain ⟨hg, h⟩ := grd_some h
          refine aw_seq [(.aload 4, 2, ax0), (.getfield 73, 3, (axF 5 1 (2, 2, 13, some 8))), (.iload_n 2, 1, ax0), (.iaload, 1, ax0), (.aload_n 0, 1, ax0)] (pc' := 132) (L' := [some (aR 8 0 t), some (aI v1), some (aI v2), some (aI v3), some (aR 5 0 s)]) (stk' := [aR 8 0 t, aI (σ5.1 (s + 2) (ix v2))]) (σ' := σ5) (g := [inb v2 8]) (by decide +kernel) rfl hg ?_
          obtain ⟨r9, σ8, h7, h⟩ := bnd_some h
          refine aw_cV (P' := pX8_mayGive) (idx := 78) (d' := 2) (c := 8) (n := 0) (k := t) [] [aI (σ5.1 (s + 2) (ix v2))] (ov := (some (aI r9))) (stk2 := [aI r9, aI (σ5.1 (s + 2) (ix v2))]) okp_X8_mayGive (by decide +kernel) ml_RX8_78 vok_X8_mayGive (by decide) rfl nar_X8_mayGive (by decide) rfl (Nat.le_of_ble_eq_true rfl) (ok_X8_mayGive h7) rfl ?_
          refine aw_seq [(.iand, 1, ax0), (.iconst 1, 1, (axI 1)), (.iload_n 3, 1, ax0), (.ishl, 1, ax0), (.iand, 1, ax0)] (pc' := 140) (L' := [some (aR 8 0 t), some (aI v1), some (aI v2), some (aI v3), some (aR 5 0 s)]) (stk' := [aI (((σ5.1 (s + 2) (ix v2)) &&& r9) &&& (shl 1 v3))]) (σ' := σ8) (g := []) (by decide +kernel) rfl rfl ?_
          refine aw_if_eq (off := 7) (tgt := 147) (by decide +kernel) (by decide) (fun c1 => ?_) (fun c1 => ?_)
          · rw [if_pos c1] at h
            refine aw_forget (L' := [none, none, none, none, none]) (lsub_n (lsub_n (lsub_n (lsub_n (lsub_n (lsub_0)))))) ?_
            exact ok_X8_can_147 σ8 _ h
          · rw [if_neg c1] at h
            refine aw_seq [(.iconst 1, 1, (axI 1))] (pc' := 144) (L' := [some (aR 8 0 t), some (aI v1), some (aI v2), some (aI v3), some (aR 5 0 s)]) (stk' := [aI 1]) (σ' := σ8) (g := []) (by decide +kernel) rfl rfl ?_
            refine aw_goto (off := 4) (tgt := 148) (by decide +kernel) (by decide) ?_
            refine aw_forget (L' := [none, none, none, none, none]) (lsub_n (lsub_n (lsub_n (lsub_n (lsub_n (lsub_0)))))) ?_
            exact ok_X8_can_148 1 σ8 _ h
    rw [if_neg c1] at h
    refine awsw_cons (fun c1 => ?_) (fun c1 => ?_)
    · rw [if_pos c1] at h
      obtain ⟨hg, h⟩ := grd_some h
      refine aw_seq [(.aload_n 0, 1, ax0), (.getfield 18, 3, (axF 8 3 (2, 3, 13, some 8))), (.iload_n 2, 1, ax0), (.iaload, 1, ax0), (.iconst 3, 1, (axI 3))] (pc' := 98) (L' := [some (aR 8 0 t), some (aI v1), some (aI v2), some (aI v3), some (aR 5 0 s)]) (stk' := [aI 3, aI (σ2.1 (t + 3) (ix v2))]) (σ' := σ2) (g := [inb v2 8]) (by decide +kernel) rfl hg ?_
      refine aw_icmp_ne (off := 7) (tgt := 105) (by decide +kernel) (by decide) (fun c1 => ?_) (fun c1 => ?_)
      · rw [if_neg c1] at h
        refine aw_seq [(.iconst 0, 1, (axI 0))] (pc' := 106) (L' := [some (aR 8 0 t), some (aI v1), some (aI v2), some (aI v3), some (aR 5 0 s)]) (stk' := [aI 0]) (σ' := σ2) (g := []) (by decide +kernel) rfl rfl ?_
        refine aw_forget (L' := [none, none, none, none, none]) (lsub_n (lsub_n (lsub_n (lsub_n (lsub_n (lsub_0)))))) ?_
        exact ok_X8_can_106 0 σ2 _ h
      · rw [if_pos c1] at h
        refine aw_seq [(.iconst 1, 1, (axI 1))] (pc' := 102) (L' := [some (aR 8 0 t), some (aI v1), some (aI v2), some (aI v3), some (aR 5 0 s)]) (stk' := [aI 1]) (σ' := σ2) (g := []) (by decide +kernel) rfl rfl ?_
        refine aw_goto (off := 4) (tgt := 106) (by decide +kernel) (by decide) ?_
        refine aw_forget (L' := [none, none, none, none, none]) (lsub_n (lsub_n (lsub_n (lsub_n (lsub_n (lsub_0)))))) ?_
        exact ok_X8_can_106 1 σ2 _ h
    rw [if_neg c1] at h
    refine awsw_nil ?_
    refine aw_seq [(.iconst 0, 1, (axI 0))] (pc' := 150) (L' := [some (aR 8 0 t), some (aI v1), some (aI v2), some (aI v3), some (aR 5 0 s)]) (stk' := [aI 0]) (σ' := σ2) (g := []) (by decide +kernel) rfl rfl ?_
    cases h
    exact aw_zret rfl bz_0 (by decide +kernel)
  · rw [if_pos c1] at h
    refine aw_seq [(.iconst 0, 1, (axI 0))] (pc' := 9) (L' := [some (aR 8 0 t), some (aI v1), some (aI v2), some (aI v3), some (aR 5 0 s)]) (stk' := [aI 0]) (σ' := σ2) (g := []) (by decide +kernel) rfl rfl ?_
    cases h
    exact aw_zret rfl bz_0 (by decide +kernel)
def f_X11_tried (v1 : Int32) (v2 : Int32) (v3 : Int32) (σ : Sg) : Option (Int32 × Sg) :=
  bnd (f_X8_can 2 v1 v2 v3 8 σ) fun r3 σ2 =>
  if r3 = 0 then (
    some (0, σ2)
  ) else (
    bndV (f_X4_keep 11 2 σ2) fun σ5 =>
    bndV (f_X8_act 2 v1 v2 v3 σ5) fun σ7 =>
    some (1, σ7)
  )
set_option maxRecDepth 100000 in
set_option maxHeartbeats 4000000 in
theorem ok_X11_tried {κ : Kd} {v1 : Int32} {v2 : Int32} {v3 : Int32} {σ : Sg} {q : (Int32 × Sg)} (h : f_X11_tried v1 v2 v3 σ = some q) : AMet κ pX11_tried 4 [aR 11 0 0, aI v1, aI v2, aI v3] σ (some (aI q.1), q.2) := by
  unfold f_X11_tried at h
  refine amet_of okp_X11_tried [(false, aR 11 0 0), (false, aI v1), (false, aI v2), (false, aI v3)] (List.forall_mem_cons.mpr ⟨rfl, List.forall_mem_cons.mpr ⟨rfl, List.forall_mem_cons.mpr ⟨rfl, List.forall_mem_cons.mpr ⟨rfl, (fun _ hn => absurd hn List.not_mem_nil)⟩⟩⟩⟩) 0 rfl ?_
  show AW κ pX11_tried 4 (some (aI q.1), q.2) 0 [some (aR 11 0 0), some (aI v1), some (aI v2), some (aI v3)] [] σ
  refine aw_seq [(.aload_n 0, 1, ax0), (.getfield 10, 3, (axF 11 0 (2, 1, 10, some 0))), (.getfield 68, 3, (axF 10 0 (2, 1, 8, some 0))), (.iload_n 1, 1, ax0), (.iload_n 2, 1, ax0), (.iload_n 3, 1, ax0), (.aload_n 0, 1, ax0), (.getfield 10, 3, (axF 11 0 (2, 1, 10, some 0))), (.getfield 83, 3, (axF 10 1 (2, 7, 5, some 0)))] (pc' := 17) (L' := [some (aR 11 0 0), some (aI v1), some (aI v2), some (aI v3)]) (stk' := [aR 5 0 8, aI v3, aI v2, aI v1, aR 8 0 2]) (σ' := σ) (g := []) (by decide +kernel) rfl rfl ?_
  obtain ⟨r3, σ2, h1, h⟩ := bnd_some h
  refine aw_cV (P' := pX8_can) (idx := 348) (d' := 3) (c := 8) (n := 0) (k := 2) [aI v1, aI v2, aI v3, aR 5 0 8] [] (ov := (some (aI r3))) (stk2 := [aI r3]) okp_X8_can (by decide +kernel) ml_RX11_348 vok_X8_can (by decide) rfl nar_X8_can (by decide) rfl (Nat.le_of_ble_eq_true rfl) (ok_X8_can h1) rfl ?_
  refine aw_if_ne (off := 5) (tgt := 25) (by decide +kernel) (by decide) (fun c1 => ?_) (fun c1 => ?_)
  · rw [if_neg c1] at h
    refine aw_seq [(.aload_n 0, 1, ax0), (.getfield 10, 3, (axF 11 0 (2, 1, 10, some 0))), (.getfield 133, 3, (axF 10 2 (2, 10, 4, some 0))), (.aload_n 0, 1, ax0), (.getfield 10, 3, (axF 11 0 (2, 1, 10, some 0))), (.getfield 68, 3, (axF 10 0 (2, 1, 8, some 0)))] (pc' := 39) (L' := [some (aR 11 0 0), some (aI v1), some (aI v2), some (aI v3)]) (stk' := [aR 8 0 2, aR 4 0 11]) (σ' := σ2) (g := []) (by decide +kernel) rfl rfl ?_
    obtain ⟨σ5, h4, h⟩ := bndV_some h
    refine aw_cV (P' := pX4_keep) (idx := 137) (d' := 3) (c := 4) (n := 0) (k := 11) [aR 8 0 2] [] (ov := none) (stk2 := []) okp_X4_keep (by decide +kernel) ml_RX11_137 vok_X4_keep (by decide) rfl nar_X4_keep (by decide) rfl (Nat.le_of_ble_eq_true rfl) (ok_X4_keep h4) rfl ?_
    refine aw_seq [(.aload_n 0, 1, ax0), (.getfield 10, 3, (axF 11 0 (2, 1, 10, some 0))), (.getfield 68, 3, (axF 10 0 (2, 1, 8, some 0))), (.iload_n 1, 1, ax0), (.iload_n 2, 1, ax0), (.iload_n 3, 1, ax0)] (pc' := 52) (L' := [some (aR 11 0 0), some (aI v1), some (aI v2), some (aI v3)]) (stk' := [aI v3, aI v2, aI v1, aR 8 0 2]) (σ' := σ5) (g := []) (by decide +kernel) rfl rfl ?_
    obtain ⟨σ7, h6, h⟩ := bndV_some h
    refine aw_cV (P' := pX8_act) (idx := 352) (d' := 3) (c := 8) (n := 0) (k := 2) [aI v1, aI v2, aI v3] [] (ov := none) (stk2 := []) okp_X8_act (by decide +kernel) ml_RX11_352 vok_X8_act (by decide) rfl nar_X8_act (by decide) rfl (Nat.le_of_ble_eq_true rfl) (ok_X8_act h6) rfl ?_
    refine aw_seq [(.iconst 1, 1, (axI 1))] (pc' := 56) (L' := [some (aR 11 0 0), some (aI v1), some (aI v2), some (aI v3)]) (stk' := [aI 1]) (σ' := σ7) (g := []) (by decide +kernel) rfl rfl ?_
    cases h
    exact aw_zret rfl bz_1 (by decide +kernel)
  · rw [if_pos c1] at h
    refine aw_seq [(.iconst 0, 1, (axI 0))] (pc' := 24) (L' := [some (aR 11 0 0), some (aI v1), some (aI v2), some (aI v3)]) (stk' := [aI 0]) (σ' := σ2) (g := []) (by decide +kernel) rfl rfl ?_
    cases h
    exact aw_zret rfl bz_0 (by decide +kernel)
def f_X11_light (v1 : Int32) (σ : Sg) : Option (Int32 × Sg) :=
  bnd (f_X11_tried 5 v1 (-1) σ) fun r3 σ2 =>
  grd (bz r3) <| some (r3, σ2)
set_option maxRecDepth 100000 in
set_option maxHeartbeats 4000000 in
theorem ok_X11_light {κ : Kd} {v1 : Int32} {σ : Sg} {q : (Int32 × Sg)} (h : f_X11_light v1 σ = some q) : AMet κ pX11_light 5 [aR 11 0 0, aI v1] σ (some (aI q.1), q.2) := by
  unfold f_X11_light at h
  refine amet_of okp_X11_light [(false, aR 11 0 0), (false, aI v1)] (List.forall_mem_cons.mpr ⟨rfl, List.forall_mem_cons.mpr ⟨rfl, (fun _ hn => absurd hn List.not_mem_nil)⟩⟩) 0 rfl ?_
  show AW κ pX11_light 5 (some (aI q.1), q.2) 0 [some (aR 11 0 0), some (aI v1)] [] σ
  refine aw_seq [(.aload_n 0, 1, ax0), (.iconst 5, 1, (axI 5)), (.iload_n 1, 1, ax0), (.iconst (-1), 1, (axI (-1)))] (pc' := 4) (L' := [some (aR 11 0 0), some (aI v1)]) (stk' := [aI (-1), aI v1, aI 5, aR 11 0 0]) (σ' := σ) (g := []) (by decide +kernel) rfl rfl ?_
  obtain ⟨r3, σ2, h1, h⟩ := bnd_some h
  refine aw_cV (P' := pX11_tried) (idx := 127) (d' := 4) (c := 11) (n := 0) (k := 0) [aI 5, aI v1, aI (-1)] [] (ov := (some (aI r3))) (stk2 := [aI r3]) okp_X11_tried (by decide +kernel) ml_RX11_127 vok_X11_tried (by decide) rfl nar_X11_tried (by decide) rfl (Nat.le_of_ble_eq_true rfl) (ok_X11_tried h1) rfl ?_
  obtain ⟨hg, h⟩ := grd_some h
  cases h
  exact aw_zret rfl hg (by decide +kernel)
def f_X11_cover (v1 : Int32) (σ : Sg) : Option (Int32 × Sg) :=
  bnd (f_X11_tried 6 v1 (-1) σ) fun r3 σ2 =>
  grd (bz r3) <| some (r3, σ2)
set_option maxRecDepth 100000 in
set_option maxHeartbeats 4000000 in
theorem ok_X11_cover {κ : Kd} {v1 : Int32} {σ : Sg} {q : (Int32 × Sg)} (h : f_X11_cover v1 σ = some q) : AMet κ pX11_cover 5 [aR 11 0 0, aI v1] σ (some (aI q.1), q.2) := by
  unfold f_X11_cover at h
  refine amet_of okp_X11_cover [(false, aR 11 0 0), (false, aI v1)] (List.forall_mem_cons.mpr ⟨rfl, List.forall_mem_cons.mpr ⟨rfl, (fun _ hn => absurd hn List.not_mem_nil)⟩⟩) 0 rfl ?_
  show AW κ pX11_cover 5 (some (aI q.1), q.2) 0 [some (aR 11 0 0), some (aI v1)] [] σ
  refine aw_seq [(.aload_n 0, 1, ax0), (.bipush 6, 2, (axI 6)), (.iload_n 1, 1, ax0), (.iconst (-1), 1, (axI (-1)))] (pc' := 5) (L' := [some (aR 11 0 0), some (aI v1)]) (stk' := [aI (-1), aI v1, aI 6, aR 11 0 0]) (σ' := σ) (g := []) (by decide +kernel) rfl rfl ?_
  obtain ⟨r3, σ2, h1, h⟩ := bnd_some h
  refine aw_cV (P' := pX11_tried) (idx := 127) (d' := 4) (c := 11) (n := 0) (k := 0) [aI 6, aI v1, aI (-1)] [] (ov := (some (aI r3))) (stk2 := [aI r3]) okp_X11_tried (by decide +kernel) ml_RX11_127 vok_X11_tried (by decide) rfl nar_X11_tried (by decide) rfl (Nat.le_of_ble_eq_true rfl) (ok_X11_tried h1) rfl ?_
  obtain ⟨hg, h⟩ := grd_some h
  cases h
  exact aw_zret rfl hg (by decide +kernel)
def f_X11_open (v1 : Int32) (σ : Sg) : Option (Int32 × Sg) :=
  bnd (f_X11_tried 7 v1 (-1) σ) fun r3 σ2 =>
  grd (bz r3) <| some (r3, σ2)
set_option maxRecDepth 100000 in
set_option maxHeartbeats 4000000 in
theorem ok_X11_open {κ : Kd} {v1 : Int32} {σ : Sg} {q : (Int32 × Sg)} (h : f_X11_open v1 σ = some q) : AMet κ pX11_open 5 [aR 11 0 0, aI v1] σ (some (aI q.1), q.2) := by
  unfold f_X11_open at h
  refine amet_of okp_X11_open [(false, aR 11 0 0), (false, aI v1)] (List.forall_mem_cons.mpr ⟨rfl, List.forall_mem_cons.mpr ⟨rfl, (fun _ hn => absurd hn List.not_mem_nil)⟩⟩) 0 rfl ?_
  show AW κ pX11_open 5 (some (aI q.1), q.2) 0 [some (aR 11 0 0), some (aI v1)] [] σ
  refine aw_seq [(.aload_n 0, 1, ax0), (.bipush 7, 2, (axI 7)), (.iload_n 1, 1, ax0), (.iconst (-1), 1, (axI (-1)))] (pc' := 5) (L' := [some (aR 11 0 0), some (aI v1)]) (stk' := [aI (-1), aI v1, aI 7, aR 11 0 0]) (σ' := σ) (g := []) (by decide +kernel) rfl rfl ?_
  obtain ⟨r3, σ2, h1, h⟩ := bnd_some h
  refine aw_cV (P' := pX11_tried) (idx := 127) (d' := 4) (c := 11) (n := 0) (k := 0) [aI 7, aI v1, aI (-1)] [] (ov := (some (aI r3))) (stk2 := [aI r3]) okp_X11_tried (by decide +kernel) ml_RX11_127 vok_X11_tried (by decide) rfl nar_X11_tried (by decide) rfl (Nat.le_of_ble_eq_true rfl) (ok_X11_tried h1) rfl ?_
  obtain ⟨hg, h⟩ := grd_some h
  cases h
  exact aw_zret rfl hg (by decide +kernel)
def f_X11_fetch_41   (s0 : Int32) (σ : Sg) : Option (Int32 × Sg) :=
  some (s0, σ)
set_option maxRecDepth 100000 in
set_option maxHeartbeats 4000000 in
theorem ok_X11_fetch_41 {κ : Kd}    : ∀ (s0 : Int32) (σ : Sg) (q : (Int32 × Sg)), f_X11_fetch_41 s0 σ = some q → AW κ pX11_fetch 5 (some (aI q.1), q.2) 41 [none, none, none] [aI s0] σ := by
  intro s0 σ q h
  unfold f_X11_fetch_41 at h
  cases h
  exact aw_iret rfl (by decide +kernel)
def f_X11_fetch_40    (σ : Sg) : Option (Int32 × Sg) :=
  f_X11_fetch_41 (-1) σ
set_option maxRecDepth 100000 in
set_option maxHeartbeats 4000000 in
theorem ok_X11_fetch_40 {κ : Kd}    : ∀  (σ : Sg) (q : (Int32 × Sg)), f_X11_fetch_40  σ = some q → AW κ pX11_fetch 5 (some (aI q.1), q.2) 40 [none, none, none] [] σ := by
  intro  σ q h
  unfold f_X11_fetch_40 at h
  refine aw_seq [(.iconst (-1), 1, (axI (-1)))] (pc' := 41) (L' := [none, none, none]) (stk' := [aI (-1)]) (σ' := σ) (g := []) (by decide +kernel) rfl rfl ?_
  refine aw_forget (L' := [none, none, none]) (lsub_n (lsub_n (lsub_n (lsub_0)))) ?_
  exact ok_X11_fetch_41 (-1) σ _ h
def f_X11_fetch (v1 : Int32) (v2 : Int32) (σ : Sg) : Option (Int32 × Sg) :=
  bnd (f_X11_tried 8 v1 v2 σ) fun r3 σ2 =>
  if r3 = 0 then (
    f_X11_fetch_40 σ2
  ) else (
    bnd (f_X8_told 2 v2 σ2) fun r6 σ5 =>
    if r6 = 0 then (
      f_X11_fetch_40 σ5
    ) else (
      grd (inb v2 8 && true) <|
      f_X11_fetch_41 (σ5.1 6 (ix v2)) σ5
    )
  )
set_option maxRecDepth 100000 in
set_option maxHeartbeats 4000000 in
theorem ok_X11_fetch {κ : Kd} {v1 : Int32} {v2 : Int32} {σ : Sg} {q : (Int32 × Sg)} (h : f_X11_fetch v1 v2 σ = some q) : AMet κ pX11_fetch 5 [aR 11 0 0, aI v1, aI v2] σ (some (aI q.1), q.2) := by
  unfold f_X11_fetch at h
  refine amet_of okp_X11_fetch [(false, aR 11 0 0), (false, aI v1), (false, aI v2)] (List.forall_mem_cons.mpr ⟨rfl, List.forall_mem_cons.mpr ⟨rfl, List.forall_mem_cons.mpr ⟨rfl, (fun _ hn => absurd hn List.not_mem_nil)⟩⟩⟩) 0 rfl ?_
  show AW κ pX11_fetch 5 (some (aI q.1), q.2) 0 [some (aR 11 0 0), some (aI v1), some (aI v2)] [] σ
  refine aw_seq [(.aload_n 0, 1, ax0), (.bipush 8, 2, (axI 8)), (.iload_n 1, 1, ax0), (.iload_n 2, 1, ax0)] (pc' := 5) (L' := [some (aR 11 0 0), some (aI v1), some (aI v2)]) (stk' := [aI v2, aI v1, aI 8, aR 11 0 0]) (σ' := σ) (g := []) (by decide +kernel) rfl rfl ?_
  obtain ⟨r3, σ2, h1, h⟩ := bnd_some h
  refine aw_cV (P' := pX11_tried) (idx := 127) (d' := 4) (c := 11) (n := 0) (k := 0) [aI 8, aI v1, aI v2] [] (ov := (some (aI r3))) (stk2 := [aI r3]) okp_X11_tried (by decide +kernel) ml_RX11_127 vok_X11_tried (by decide) rfl nar_X11_tried (by decide) rfl (Nat.le_of_ble_eq_true rfl) (ok_X11_tried h1) rfl ?_
  refine aw_if_eq (off := 32) (tgt := 40) (by decide +kernel) (by decide) (fun c1 => ?_) (fun c1 => ?_)
  · rw [if_pos c1] at h
    refine aw_forget (L' := [none, none, none]) (lsub_n (lsub_n (lsub_n (lsub_0)))) ?_
    exact ok_X11_fetch_40 σ2 _ h
  · rw [if_neg c1] at h
    refine aw_seq [(.aload_n 0, 1, ax0), (.getfield 10, 3, (axF 11 0 (2, 1, 10, some 0))), (.getfield 68, 3, (axF 10 0 (2, 1, 8, some 0))), (.iload_n 2, 1, ax0)] (pc' := 19) (L' := [some (aR 11 0 0), some (aI v1), some (aI v2)]) (stk' := [aI v2, aR 8 0 2]) (σ' := σ2) (g := []) (by decide +kernel) rfl rfl ?_
    obtain ⟨r6, σ5, h4, h⟩ := bnd_some h
    refine aw_cV (P' := pX8_told) (idx := 75) (d' := 1) (c := 8) (n := 0) (k := 2) [aI v2] [] (ov := (some (aI r6))) (stk2 := [aI r6]) okp_X8_told (by decide +kernel) ml_RX11_75 vok_X8_told (by decide) rfl nar_X8_told (by decide) rfl (Nat.le_of_ble_eq_true rfl) (ok_X8_told h4) rfl ?_
    refine aw_if_eq (off := 18) (tgt := 40) (by decide +kernel) (by decide) (fun c1 => ?_) (fun c1 => ?_)
    · rw [if_pos c1] at h
      refine aw_forget (L' := [none, none, none]) (lsub_n (lsub_n (lsub_n (lsub_0)))) ?_
      exact ok_X11_fetch_40 σ5 _ h
    · rw [if_neg c1] at h
      obtain ⟨hg, h⟩ := grd_some h
      refine aw_seq [(.aload_n 0, 1, ax0), (.getfield 10, 3, (axF 11 0 (2, 1, 10, some 0))), (.getfield 68, 3, (axF 10 0 (2, 1, 8, some 0))), (.getfield 130, 3, (axF 8 4 (2, 4, 13, some 8))), (.iload_n 2, 1, ax0), (.iaload, 1, ax0)] (pc' := 37) (L' := [some (aR 11 0 0), some (aI v1), some (aI v2)]) (stk' := [aI (σ5.1 6 (ix v2))]) (σ' := σ5) (g := [inb v2 8]) (by decide +kernel) rfl hg ?_
      refine aw_goto (off := 4) (tgt := 41) (by decide +kernel) (by decide) ?_
      refine aw_forget (L' := [none, none, none]) (lsub_n (lsub_n (lsub_n (lsub_0)))) ?_
      exact ok_X11_fetch_41 (σ5.1 6 (ix v2)) σ5 _ h
def f_X11_quench (v1 : Int32) (σ : Sg) : Option (Int32 × Sg) :=
  bnd (f_X11_tried 9 v1 (-1) σ) fun r3 σ2 =>
  grd (bz r3) <| some (r3, σ2)
set_option maxRecDepth 100000 in
set_option maxHeartbeats 4000000 in
theorem ok_X11_quench {κ : Kd} {v1 : Int32} {σ : Sg} {q : (Int32 × Sg)} (h : f_X11_quench v1 σ = some q) : AMet κ pX11_quench 5 [aR 11 0 0, aI v1] σ (some (aI q.1), q.2) := by
  unfold f_X11_quench at h
  refine amet_of okp_X11_quench [(false, aR 11 0 0), (false, aI v1)] (List.forall_mem_cons.mpr ⟨rfl, List.forall_mem_cons.mpr ⟨rfl, (fun _ hn => absurd hn List.not_mem_nil)⟩⟩) 0 rfl ?_
  show AW κ pX11_quench 5 (some (aI q.1), q.2) 0 [some (aR 11 0 0), some (aI v1)] [] σ
  refine aw_seq [(.aload_n 0, 1, ax0), (.bipush 9, 2, (axI 9)), (.iload_n 1, 1, ax0), (.iconst (-1), 1, (axI (-1)))] (pc' := 5) (L' := [some (aR 11 0 0), some (aI v1)]) (stk' := [aI (-1), aI v1, aI 9, aR 11 0 0]) (σ' := σ) (g := []) (by decide +kernel) rfl rfl ?_
  obtain ⟨r3, σ2, h1, h⟩ := bnd_some h
  refine aw_cV (P' := pX11_tried) (idx := 127) (d' := 4) (c := 11) (n := 0) (k := 0) [aI 9, aI v1, aI (-1)] [] (ov := (some (aI r3))) (stk2 := [aI r3]) okp_X11_tried (by decide +kernel) ml_RX11_127 vok_X11_tried (by decide) rfl nar_X11_tried (by decide) rfl (Nat.le_of_ble_eq_true rfl) (ok_X11_tried h1) rfl ?_
  obtain ⟨hg, h⟩ := grd_some h
  cases h
  exact aw_zret rfl hg (by decide +kernel)
def f_X8_bell_25 (t : Nat)  (s0 : Int32) (σ : Sg) : Option (Int32 × Sg) :=
  grd (bz s0) <| some (s0, σ)
set_option maxRecDepth 100000 in
set_option maxHeartbeats 4000000 in
theorem ok_X8_bell_25 {κ : Kd} {t : Nat}   : ∀ (s0 : Int32) (σ : Sg) (q : (Int32 × Sg)), f_X8_bell_25 t s0 σ = some q → AW κ pX8_bell 1 (some (aI q.1), q.2) 25 [none, none] [aI s0] σ := by
  intro s0 σ q h
  unfold f_X8_bell_25 at h
  obtain ⟨hg, h⟩ := grd_some h
  cases h
  exact aw_zret rfl hg (by decide +kernel)
def f_X8_bell_20 (t : Nat)   (σ : Sg) : Option (Int32 × Sg) :=
  f_X8_bell_25 t 1 σ
set_option maxRecDepth 100000 in
set_option maxHeartbeats 4000000 in
theorem ok_X8_bell_20 {κ : Kd} {t : Nat}   : ∀  (σ : Sg) (q : (Int32 × Sg)), f_X8_bell_20 t  σ = some q → AW κ pX8_bell 1 (some (aI q.1), q.2) 20 [none, none] [] σ := by
  intro  σ q h
  unfold f_X8_bell_20 at h
  refine aw_seq [(.iconst 1, 1, (axI 1))] (pc' := 21) (L' := [none, none]) (stk' := [aI 1]) (σ' := σ) (g := []) (by decide +kernel) rfl rfl ?_
  refine aw_goto (off := 4) (tgt := 25) (by decide +kernel) (by decide) ?_
  refine aw_forget (L' := [none, none]) (lsub_n (lsub_n (lsub_0))) ?_
  exact ok_X8_bell_25 1 σ _ h
def f_X8_bell (t : Nat) (σ : Sg) : Option (Int32 × Sg) :=
  grd ((!decide ((24 : Int32) = 0)) && true) <|
  if 20 ≤ (jrem (σ.1 t 5) 24) then (
    f_X8_bell_20 t σ
  ) else (
    if 6 ≤ (jrem (σ.1 t 5) 24) then (
      f_X8_bell_25 t 0 σ
    ) else (
      f_X8_bell_20 t σ
    )
  )
set_option maxRecDepth 100000 in
set_option maxHeartbeats 4000000 in
theorem ok_X8_bell {κ : Kd} {t : Nat} {σ : Sg} {q : (Int32 × Sg)} (h : f_X8_bell t σ = some q) : AMet κ pX8_bell 1 [aR 8 0 t] σ (some (aI q.1), q.2) := by
  unfold f_X8_bell at h
  refine amet_of okp_X8_bell [(false, aR 8 0 t)] (List.forall_mem_cons.mpr ⟨rfl, (fun _ hn => absurd hn List.not_mem_nil)⟩) 1 rfl ?_
  show AW κ pX8_bell 1 (some (aI q.1), q.2) 0 [some (aR 8 0 t), none] [] σ
  obtain ⟨hg, h⟩ := grd_some h
  refine aw_seq [(.aload_n 0, 1, ax0), (.getfield 40, 3, (axF 8 5 (0, 0, 0, none))), (.bipush 24, 2, (axI 24)), (.irem, 1, ax0), (.istore_n 1, 1, ax0), (.iload_n 1, 1, ax0), (.bipush 20, 2, (axI 20))] (pc' := 11) (L' := [some (aR 8 0 t), some (aI (jrem (σ.1 t 5) 24))]) (stk' := [aI 20, aI (jrem (σ.1 t 5) 24)]) (σ' := σ) (g := [(!decide ((24 : Int32) = 0))]) (by decide +kernel) rfl hg ?_
  refine aw_icmp_ge (off := 9) (tgt := 20) (by decide +kernel) (by decide) (fun c1 => ?_) (fun c1 => ?_)
  · rw [if_pos c1] at h
    refine aw_forget (L' := [none, none]) (lsub_n (lsub_n (lsub_0))) ?_
    exact ok_X8_bell_20 σ _ h
  · rw [if_neg c1] at h
    refine aw_seq [(.iload_n 1, 1, ax0), (.bipush 6, 2, (axI 6))] (pc' := 17) (L' := [some (aR 8 0 t), some (aI (jrem (σ.1 t 5) 24))]) (stk' := [aI 6, aI (jrem (σ.1 t 5) 24)]) (σ' := σ) (g := []) (by decide +kernel) rfl rfl ?_
    refine aw_icmp_ge (off := 7) (tgt := 24) (by decide +kernel) (by decide) (fun c1 => ?_) (fun c1 => ?_)
    · rw [if_pos c1] at h
      refine aw_seq [(.iconst 0, 1, (axI 0))] (pc' := 25) (L' := [some (aR 8 0 t), some (aI (jrem (σ.1 t 5) 24))]) (stk' := [aI 0]) (σ' := σ) (g := []) (by decide +kernel) rfl rfl ?_
      refine aw_forget (L' := [none, none]) (lsub_n (lsub_n (lsub_0))) ?_
      exact ok_X8_bell_25 0 σ _ h
    · rw [if_neg c1] at h
      refine aw_forget (L' := [none, none]) (lsub_n (lsub_n (lsub_0))) ?_
      exact ok_X8_bell_20 σ _ h
def f_X1_named_69 (t : Nat)  (s0 : Int32) (σ : Sg) : Option (Int32 × Sg) :=
  some (s0, σ)
set_option maxRecDepth 100000 in
set_option maxHeartbeats 4000000 in
theorem ok_X1_named_69 {κ : Kd} {t : Nat}   : ∀ (s0 : Int32) (σ : Sg) (q : (Int32 × Sg)), f_X1_named_69 t s0 σ = some q → AW κ pX1_named 2 (some (aI q.1), q.2) 69 [none, none, none, none] [aI s0] σ := by
  intro s0 σ q h
  unfold f_X1_named_69 at h
  cases h
  exact aw_iret rfl (by decide +kernel)
def f_X1_named (t : Nat) (v1 : Int32) (v2 : Int32) (v3 : Int32) (σ : Sg) : Option (Int32 × Sg) :=
  if v1 = 11 then (
    some ((σ.1 t 5), σ)
  ) else (
  if v1 = 12 then (
    bnd (f_X8_bell t σ) fun r3 σ2 =>
    if r3 = 0 then (
      f_X1_named_69 t 0 σ2
    ) else (
      f_X1_named_69 t 1 σ2
    )
  ) else (
  if v1 = 13 then (
    some ((σ.1 t 6), σ)
  ) else (
  if v1 = 14 then (
    some (v2, σ)
  ) else (
  if v1 = 15 then (
    grd (inb v2 8 && true) <|
    some ((σ.1 (t + 1) (ix v2)), σ)
  ) else (
  if v1 = 16 then (
    grd (inb v2 8 && true) <|
    some ((σ.1 (t + 3) (ix v2)), σ)
  ) else (
  if v1 = 17 then (
    grd (inb v2 8 && true) <|
    some ((σ.1 (t + 4) (ix v2)), σ)
  ) else (
  if v1 = 18 then (
    some (v3, σ)
  ) else (
  if v1 = 19 then (
    grd (inb v2 8 && true) <|
    some ((σ.1 (t + 2) (ix v2)), σ)
  ) else (
    some (0, σ)
  )))))))))
set_option maxRecDepth 100000 in
set_option maxHeartbeats 4000000 in
theorem ok_X1_named {κ : Kd} {t : Nat} {v1 : Int32} {v2 : Int32} {v3 : Int32} {σ : Sg} {q : (Int32 × Sg)} (h : f_X1_named t v1 v2 v3 σ = some q) : AMet κ pX1_named 2 [aR 8 0 t, aI v1, aI v2, aI v3] σ (some (aI q.1), q.2) := by
  unfold f_X1_named at h
  refine amet_of okp_X1_named [(false, aR 8 0 t), (false, aI v1), (false, aI v2), (false, aI v3)] (List.forall_mem_cons.mpr ⟨rfl, List.forall_mem_cons.mpr ⟨rfl, List.forall_mem_cons.mpr ⟨rfl, List.forall_mem_cons.mpr ⟨rfl, (fun _ hn => absurd hn List.not_mem_nil)⟩⟩⟩⟩) 0 rfl ?_
  show AW κ pX1_named 2 (some (aI q.1), q.2) 0 [some (aR 8 0 t), some (aI v1), some (aI v2), some (aI v3)] [] σ
  refine aw_seq [(.iload_n 1, 1, ax0)] (pc' := 1) (L' := [some (aR 8 0 t), some (aI v1), some (aI v2), some (aI v3)]) (stk' := [aI v1]) (σ' := σ) (g := []) (by decide +kernel) rfl rfl ?_
  refine aw_table (dflt := 106) (lo := 11) (hi := 19) (offs := #[51, 56, 69, 74, 76, 83, 90, 97, 99]) (len := 51) (dt := 107) (by decide +kernel) [(11, 52), (12, 57), (13, 70), (14, 75), (15, 77), (16, 84), (17, 91), (18, 98), (19, 100)] (by decide +kernel) ?_
  refine awsw_cons (fun c1 => ?_) (fun c1 => ?_)
  · rw [if_pos c1] at h
    refine aw_seq [(.aload_n 0, 1, ax0), (.getfield 49, 3, (axF 8 5 (0, 0, 0, none)))] (pc' := 56) (L' := [some (aR 8 0 t), some (aI v1), some (aI v2), some (aI v3)]) (stk' := [aI (σ.1 t 5)]) (σ' := σ) (g := []) (by decide +kernel) rfl rfl ?_
    cases h
    exact aw_iret rfl (by decide +kernel)
  rw [if_neg c1] at h
  refine awsw_cons (fun c1 => ?_) (fun c1 => ?_)
  · rw [if_pos c1] at h
    refine aw_seq [(.aload_n 0, 1, ax0)] (pc' := 58) (L' := [some (aR 8 0 t), some (aI v1), some (aI v2), some (aI v3)]) (stk' := [aR 8 0 t]) (σ' := σ) (g := []) (by decide +kernel) rfl rfl ?_
    obtain ⟨r3, σ2, h1, h⟩ := bnd_some h
    refine aw_cV (P' := pX8_bell) (idx := 73) (d' := 1) (c := 8) (n := 0) (k := t) [] [] (ov := (some (aI r3))) (stk2 := [aI r3]) okp_X8_bell (by decide +kernel) ml_RX1_73 vok_X8_bell (by decide) rfl nar_X8_bell (by decide) rfl (Nat.le_of_ble_eq_true rfl) (ok_X8_bell h1) rfl ?_
    refine aw_if_eq (off := 7) (tgt := 68) (by decide +kernel) (by decide) (fun c1 => ?_) (fun c1 => ?_)
    · rw [if_pos c1] at h
      refine aw_seq [(.iconst 0, 1, (axI 0))] (pc' := 69) (L' := [some (aR 8 0 t), some (aI v1), some (aI v2), some (aI v3)]) (stk' := [aI 0]) (σ' := σ2) (g := []) (by decide +kernel) rfl rfl ?_
      refine aw_forget (L' := [none, none, none, none]) (lsub_n (lsub_n (lsub_n (lsub_n (lsub_0))))) ?_
      exact ok_X1_named_69 0 σ2 _ h
    · rw [if_neg c1] at h
      refine aw_seq [(.iconst 1, 1, (axI 1))] (pc' := 65) (L' := [some (aR 8 0 t), some (aI v1), some (aI v2), some (aI v3)]) (stk' := [aI 1]) (σ' := σ2) (g := []) (by decide +kernel) rfl rfl ?_
      refine aw_goto (off := 4) (tgt := 69) (by decide +kernel) (by decide) ?_
      refine aw_forget (L' := [none, none, none, none]) (lsub_n (lsub_n (lsub_n (lsub_n (lsub_0))))) ?_
      exact ok_X1_named_69 1 σ2 _ h
  rw [if_neg c1] at h
  refine awsw_cons (fun c1 => ?_) (fun c1 => ?_)
  · rw [if_pos c1] at h
    refine aw_seq [(.aload_n 0, 1, ax0), (.getfield 21, 3, (axF 8 6 (0, 0, 0, none)))] (pc' := 74) (L' := [some (aR 8 0 t), some (aI v1), some (aI v2), some (aI v3)]) (stk' := [aI (σ.1 t 6)]) (σ' := σ) (g := []) (by decide +kernel) rfl rfl ?_
    cases h
    exact aw_iret rfl (by decide +kernel)
  rw [if_neg c1] at h
  refine awsw_cons (fun c1 => ?_) (fun c1 => ?_)
  · rw [if_pos c1] at h
    refine aw_seq [(.iload_n 2, 1, ax0)] (pc' := 76) (L' := [some (aR 8 0 t), some (aI v1), some (aI v2), some (aI v3)]) (stk' := [aI v2]) (σ' := σ) (g := []) (by decide +kernel) rfl rfl ?_
    cases h
    exact aw_iret rfl (by decide +kernel)
  rw [if_neg c1] at h
  refine awsw_cons (fun c1 => ?_) (fun c1 => ?_)
  · rw [if_pos c1] at h
    obtain ⟨hg, h⟩ := grd_some h
    refine aw_seq [(.aload_n 0, 1, ax0), (.getfield 96, 3, (axF 8 1 (2, 1, 13, some 8))), (.iload_n 2, 1, ax0), (.iaload, 1, ax0)] (pc' := 83) (L' := [some (aR 8 0 t), some (aI v1), some (aI v2), some (aI v3)]) (stk' := [aI (σ.1 (t + 1) (ix v2))]) (σ' := σ) (g := [inb v2 8]) (by decide +kernel) rfl hg ?_
    cases h
    exact aw_iret rfl (by decide +kernel)
  rw [if_neg c1] at h
  refine awsw_cons (fun c1 => ?_) (fun c1 => ?_)
  · rw [if_pos c1] at h
    obtain ⟨hg, h⟩ := grd_some h
    refine aw_seq [(.aload_n 0, 1, ax0), (.getfield 70, 3, (axF 8 3 (2, 3, 13, some 8))), (.iload_n 2, 1, ax0), (.iaload, 1, ax0)] (pc' := 90) (L' := [some (aR 8 0 t), some (aI v1), some (aI v2), some (aI v3)]) (stk' := [aI (σ.1 (t + 3) (ix v2))]) (σ' := σ) (g := [inb v2 8]) (by decide +kernel) rfl hg ?_
    cases h
    exact aw_iret rfl (by decide +kernel)
  rw [if_neg c1] at h
  refine awsw_cons (fun c1 => ?_) (fun c1 => ?_)
  · rw [if_pos c1] at h
    obtain ⟨hg, h⟩ := grd_some h
    refine aw_seq [(.aload_n 0, 1, ax0), (.getfield 56, 3, (axF 8 4 (2, 4, 13, some 8))), (.iload_n 2, 1, ax0), (.iaload, 1, ax0)] (pc' := 97) (L' := [some (aR 8 0 t), some (aI v1), some (aI v2), some (aI v3)]) (stk' := [aI (σ.1 (t + 4) (ix v2))]) (σ' := σ) (g := [inb v2 8]) (by decide +kernel) rfl hg ?_
    cases h
    exact aw_iret rfl (by decide +kernel)
  rw [if_neg c1] at h
  refine awsw_cons (fun c1 => ?_) (fun c1 => ?_)
  · rw [if_pos c1] at h
    refine aw_seq [(.iload_n 3, 1, ax0)] (pc' := 99) (L' := [some (aR 8 0 t), some (aI v1), some (aI v2), some (aI v3)]) (stk' := [aI v3]) (σ' := σ) (g := []) (by decide +kernel) rfl rfl ?_
    cases h
    exact aw_iret rfl (by decide +kernel)
  rw [if_neg c1] at h
  refine awsw_cons (fun c1 => ?_) (fun c1 => ?_)
  · rw [if_pos c1] at h
    obtain ⟨hg, h⟩ := grd_some h
    refine aw_seq [(.aload_n 0, 1, ax0), (.getfield 77, 3, (axF 8 2 (2, 2, 13, some 8))), (.iload_n 2, 1, ax0), (.iaload, 1, ax0)] (pc' := 106) (L' := [some (aR 8 0 t), some (aI v1), some (aI v2), some (aI v3)]) (stk' := [aI (σ.1 (t + 2) (ix v2))]) (σ' := σ) (g := [inb v2 8]) (by decide +kernel) rfl hg ?_
    cases h
    exact aw_iret rfl (by decide +kernel)
  rw [if_neg c1] at h
  refine awsw_nil ?_
  refine aw_seq [(.iconst 0, 1, (axI 0))] (pc' := 108) (L' := [some (aR 8 0 t), some (aI v1), some (aI v2), some (aI v3)]) (stk' := [aI 0]) (σ' := σ) (g := []) (by decide +kernel) rfl rfl ?_
  cases h
  exact aw_iret rfl (by decide +kernel)
