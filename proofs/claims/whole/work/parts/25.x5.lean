/-! printed by wip/whole/gen4.py from the class file: cooled, coolsAsTold, whose, befell, parts, warmest, leaves, kept, copyFrom, copyFrom, copyFrom, image, back, about, begin, last, place, fail, kind, take, number, takeNumber, addClause, readAct, emit, name, leadHere -/
def f_X11_cooled_51    (σ : Sg) : Option (Int32 × Sg) :=
  some ((-2), σ)
set_option maxRecDepth 100000 in
set_option maxHeartbeats 4000000 in
theorem ok_X11_cooled_51 {κ : Kd}    : ∀  (σ : Sg) (q : (Int32 × Sg)), f_X11_cooled_51  σ = some q → AW κ pX11_cooled 2 (some (aI q.1), q.2) 51 [none, none, none] [] σ := by
  intro  σ q h
  unfold f_X11_cooled_51 at h
  refine aw_seq [(.bipush (-2), 2, (axI (-2)))] (pc' := 53) (L' := [none, none, none]) (stk' := [aI (-2)]) (σ' := σ) (g := []) (by decide +kernel) rfl rfl ?_
  cases h
  exact aw_iret rfl (by decide +kernel)
def f_X11_cooled (v1 : Int32) (v2 : Int32) (σ : Sg) : Option (Int32 × Sg) :=
  if v1 = (-1) then (
    ltσ (wI σ 1 14 0) fun σ13 =>
    some (0, σ13)
  ) else (
    bnd (f_X8_told 2 v1 σ) fun r3 σ2 =>
    if r3 = 0 then (
      f_X11_cooled_51 σ2
    ) else (
      bnd (f_X11_within v2 0 9 σ2) fun r6 σ5 =>
      if r6 = 0 then (
        f_X11_cooled_51 σ5
      ) else (
        if (σ5.1 1 14) < 8 then (
          grd (inb (σ5.1 1 14) 8 && true) <|
          ltσ (wI σ5 19 (ix (σ5.1 1 14)) v1) fun σ7 =>
          grd (inb (σ7.1 1 14) 8 && true) <|
          ltσ (wI σ7 20 (ix (σ7.1 1 14)) v2) fun σ9 =>
          ltσ (wI σ9 1 14 ((σ9.1 1 14) + 1)) fun σ11 =>
          some ((σ11.1 1 14), σ11)
        ) else (
          f_X11_cooled_51 σ5
        )
      )
    )
  )
set_option maxRecDepth 100000 in
set_option maxHeartbeats 4000000 in
theorem ok_X11_cooled {κ : Kd} {v1 : Int32} {v2 : Int32} {σ : Sg} {q : (Int32 × Sg)} (h : f_X11_cooled v1 v2 σ = some q) : AMet κ pX11_cooled 2 [aR 11 0 0, aI v1, aI v2] σ (some (aI q.1), q.2) := by
  unfold f_X11_cooled at h
  refine amet_of okp_X11_cooled [(false, aR 11 0 0), (false, aI v1), (false, aI v2)] (List.forall_mem_cons.mpr ⟨rfl, List.forall_mem_cons.mpr ⟨rfl, List.forall_mem_cons.mpr ⟨rfl, (fun _ hn => absurd hn List.not_mem_nil)⟩⟩⟩) 0 rfl ?_
  show AW κ pX11_cooled 2 (some (aI q.1), q.2) 0 [some (aR 11 0 0), some (aI v1), some (aI v2)] [] σ
  refine aw_seq [(.iload_n 1, 1, ax0), (.iconst (-1), 1, (axI (-1)))] (pc' := 2) (L' := [some (aR 11 0 0), some (aI v1), some (aI v2)]) (stk' := [aI (-1), aI v1]) (σ' := σ) (g := []) (by decide +kernel) rfl rfl ?_
  refine aw_icmp_ne (off := 13) (tgt := 15) (by decide +kernel) (by decide) (fun c1 => ?_) (fun c1 => ?_)
  · rw [if_neg c1] at h
    refine aw_seq [(.aload_n 0, 1, ax0), (.getfield 10, 3, (axF 11 0 (2, 1, 10, some 0))), (.getfield 68, 3, (axF 10 0 (2, 1, 8, some 0))), (.iload_n 1, 1, ax0)] (pc' := 23) (L' := [some (aR 11 0 0), some (aI v1), some (aI v2)]) (stk' := [aI v1, aR 8 0 2]) (σ' := σ) (g := []) (by decide +kernel) rfl rfl ?_
    obtain ⟨r3, σ2, h1, h⟩ := bnd_some h
    refine aw_cV (P' := pX8_told) (idx := 75) (d' := 1) (c := 8) (n := 0) (k := 2) [aI v1] [] (ov := (some (aI r3))) (stk2 := [aI r3]) okp_X8_told (by decide +kernel) ml_RX11_75 vok_X8_told (by decide) rfl nar_X8_told (by decide) rfl (Nat.le_of_ble_eq_true rfl) (ok_X8_told h1) rfl ?_
    refine aw_if_eq (off := 25) (tgt := 51) (by decide +kernel) (by decide) (fun c1 => ?_) (fun c1 => ?_)
    · rw [if_pos c1] at h
      refine aw_forget (L' := [none, none, none]) (lsub_n (lsub_n (lsub_n (lsub_0)))) ?_
      exact ok_X11_cooled_51 σ2 _ h
    · rw [if_neg c1] at h
      refine aw_seq [(.iload_n 2, 1, ax0), (.iconst 0, 1, (axI 0)), (.bipush 9, 2, (axI 9))] (pc' := 33) (L' := [some (aR 11 0 0), some (aI v1), some (aI v2)]) (stk' := [aI 9, aI 0, aI v2]) (σ' := σ2) (g := []) (by decide +kernel) rfl rfl ?_
      obtain ⟨r6, σ5, h4, h⟩ := bnd_some h
      refine aw_cS (P' := pX11_within) (idx := 79) (d' := 1) [aI v2, aI 0, aI 9] [] (ov := (some (aI r6))) (stk2 := [aI r6]) okp_X11_within (by decide +kernel) ml_RX11_79 tok_X11_within nar_X11_within (by decide) rfl (Nat.le_of_ble_eq_true rfl) (ok_X11_within h4) rfl ?_
      refine aw_if_eq (off := 15) (tgt := 51) (by decide +kernel) (by decide) (fun c1 => ?_) (fun c1 => ?_)
      · rw [if_pos c1] at h
        refine aw_forget (L' := [none, none, none]) (lsub_n (lsub_n (lsub_n (lsub_0)))) ?_
        exact ok_X11_cooled_51 σ5 _ h
      · rw [if_neg c1] at h
        refine aw_seq [(.aload_n 0, 1, ax0), (.getfield 10, 3, (axF 11 0 (2, 1, 10, some 0))), (.getfield 326, 3, (axF 10 14 (0, 0, 0, none))), (.bipush 8, 2, (axI 8))] (pc' := 48) (L' := [some (aR 11 0 0), some (aI v1), some (aI v2)]) (stk' := [aI 8, aI (σ5.1 1 14)]) (σ' := σ5) (g := []) (by decide +kernel) rfl rfl ?_
        refine aw_icmp_lt (off := 6) (tgt := 54) (by decide +kernel) (by decide) (fun c1 => ?_) (fun c1 => ?_)
        · rw [if_pos c1] at h
          obtain ⟨hg, h⟩ := grd_some h
          obtain ⟨σ7, e8, h⟩ := ltσ_some h
          refine aw_seq [(.aload_n 0, 1, ax0), (.getfield 10, 3, (axF 11 0 (2, 1, 10, some 0))), (.getfield 329, 3, (axF 10 12 (2, 18, 13, some 8))), (.aload_n 0, 1, ax0), (.getfield 10, 3, (axF 11 0 (2, 1, 10, some 0))), (.getfield 326, 3, (axF 10 14 (0, 0, 0, none))), (.iload_n 1, 1, ax0), (.iastore, 1, ax0)] (pc' := 70) (L' := [some (aR 11 0 0), some (aI v1), some (aI v2)]) (stk' := []) (σ' := σ7) (g := [inb (σ5.1 1 14) 8]) (by decide +kernel) (by rw [e8]; rfl) hg ?_
          obtain ⟨hg, h⟩ := grd_some h
          obtain ⟨σ9, e10, h⟩ := ltσ_some h
          refine aw_seq [(.aload_n 0, 1, ax0), (.getfield 10, 3, (axF 11 0 (2, 1, 10, some 0))), (.getfield 332, 3, (axF 10 13 (2, 19, 13, some 8))), (.aload_n 0, 1, ax0), (.getfield 10, 3, (axF 11 0 (2, 1, 10, some 0))), (.getfield 326, 3, (axF 10 14 (0, 0, 0, none))), (.iload_n 2, 1, ax0), (.iastore, 1, ax0)] (pc' := 86) (L' := [some (aR 11 0 0), some (aI v1), some (aI v2)]) (stk' := []) (σ' := σ9) (g := [inb (σ7.1 1 14) 8]) (by decide +kernel) (by rw [e10]; rfl) hg ?_
          obtain ⟨σ11, e12, h⟩ := ltσ_some h
          refine aw_seq [(.aload_n 0, 1, ax0), (.getfield 10, 3, (axF 11 0 (2, 1, 10, some 0))), (.dup, 1, ax0), (.getfield 326, 3, (axF 10 14 (0, 0, 0, none))), (.iconst 1, 1, (axI 1)), (.iadd, 1, ax0), (.putfield 326, 3, (axF 10 14 (0, 0, 0, none)))] (pc' := 99) (L' := [some (aR 11 0 0), some (aI v1), some (aI v2)]) (stk' := []) (σ' := σ11) (g := []) (by decide +kernel) (by rw [e12]; rfl) rfl ?_
          refine aw_seq [(.aload_n 0, 1, ax0), (.getfield 10, 3, (axF 11 0 (2, 1, 10, some 0))), (.getfield 326, 3, (axF 10 14 (0, 0, 0, none)))] (pc' := 106) (L' := [some (aR 11 0 0), some (aI v1), some (aI v2)]) (stk' := [aI (σ11.1 1 14)]) (σ' := σ11) (g := []) (by decide +kernel) rfl rfl ?_
          cases h
          exact aw_iret rfl (by decide +kernel)
        · rw [if_neg c1] at h
          refine aw_forget (L' := [none, none, none]) (lsub_n (lsub_n (lsub_n (lsub_0)))) ?_
          exact ok_X11_cooled_51 σ5 _ h
  · rw [if_pos c1] at h
    obtain ⟨σ13, e14, h⟩ := ltσ_some h
    refine aw_seq [(.aload_n 0, 1, ax0), (.getfield 10, 3, (axF 11 0 (2, 1, 10, some 0))), (.iconst 0, 1, (axI 0)), (.putfield 326, 3, (axF 10 14 (0, 0, 0, none)))] (pc' := 13) (L' := [some (aR 11 0 0), some (aI v1), some (aI v2)]) (stk' := []) (σ' := σ13) (g := []) (by decide +kernel) (by rw [e14]; rfl) rfl ?_
    refine aw_seq [(.iconst 0, 1, (axI 0))] (pc' := 14) (L' := [some (aR 11 0 0), some (aI v1), some (aI v2)]) (stk' := [aI 0]) (σ' := σ13) (g := []) (by decide +kernel) rfl rfl ?_
    cases h
    exact aw_iret rfl (by decide +kernel)
def f_X11_coolsAsTold_2 (κ : Kd)  : Nat → Option Nat → Int32 → Sg → Option (Int32 × Sg)
  | 0, _, _, _ => none
  | fu + 1, v1, v2, σ =>
    if (σ.1 1 14) ≤ v2 then (
      some (1, σ)
    ) else (
      grd (inb v2 8 && true) <|
      bnd (f_X1_rateToday κ 2 8 v1 0 (σ.1 19 (ix v2)) σ) fun r3 σ2 =>
      grd (inb v2 8 && true) <|
      if r3 = (σ2.1 20 (ix v2)) then (
        (f_X11_coolsAsTold_2 κ fu) v1 (v2 + 1) σ2
      ) else (
        some (0, σ2)
      )
    )
set_option maxRecDepth 100000 in
set_option maxHeartbeats 4000000 in
theorem ok_X11_coolsAsTold_2 {κ : Kd}    : ∀ (fu : Nat) (v1 : Option Nat) (v2 : Int32) (σ : Sg) (q : (Int32 × Sg)), f_X11_coolsAsTold_2 κ fu v1 v2 σ = some q → AW κ pX11_coolsAsTold 6 (some (aI q.1), q.2) 2 [some (aR 11 0 0), some (aT v1), some (aI v2), none, none] [] σ := by
  intro fu
  induction fu with
  | zero =>
    intro v1 v2 σ q h
    unfold f_X11_coolsAsTold_2 at h
    cases h
  | succ fu ih =>
    intro v1 v2 σ q h
    unfold f_X11_coolsAsTold_2 at h
    refine aw_seq [(.iload_n 2, 1, ax0), (.aload_n 0, 1, ax0), (.getfield 10, 3, (axF 11 0 (2, 1, 10, some 0))), (.getfield 326, 3, (axF 10 14 (0, 0, 0, none)))] (pc' := 10) (L' := [some (aR 11 0 0), some (aT v1), some (aI v2), none, none]) (stk' := [aI (σ.1 1 14), aI v2]) (σ' := σ) (g := []) (by decide +kernel) rfl rfl ?_
    refine aw_icmp_ge (off := 61) (tgt := 71) (by decide +kernel) (by decide) (fun c1 => ?_) (fun c1 => ?_)
    · rw [if_pos c1] at h
      refine aw_seq [(.iconst 1, 1, (axI 1))] (pc' := 72) (L' := [some (aR 11 0 0), some (aT v1), some (aI v2), none, none]) (stk' := [aI 1]) (σ' := σ) (g := []) (by decide +kernel) rfl rfl ?_
      cases h
      exact aw_zret rfl bz_1 (by decide +kernel)
    · rw [if_neg c1] at h
      obtain ⟨hg, h⟩ := grd_some h
      refine aw_seq [(.aload_n 0, 1, ax0), (.getfield 10, 3, (axF 11 0 (2, 1, 10, some 0))), (.getfield 329, 3, (axF 10 12 (2, 18, 13, some 8))), (.iload_n 2, 1, ax0), (.iaload, 1, ax0), (.istore_n 3, 1, ax0), (.aload_n 0, 1, ax0), (.getfield 29, 3, (axF 11 3 (2, 47, 1, some 0))), (.aload_n 0, 1, ax0), (.getfield 10, 3, (axF 11 0 (2, 1, 10, some 0))), (.getfield 68, 3, (axF 10 0 (2, 1, 8, some 0))), (.aload_n 0, 1, ax0), (.getfield 10, 3, (axF 11 0 (2, 1, 10, some 0))), (.getfield 83, 3, (axF 10 1 (2, 7, 5, some 0))), (.aload_n 1, 1, ax0), (.iconst 0, 1, (axI 0)), (.iload_n 3, 1, ax0)] (pc' := 44) (L' := [some (aR 11 0 0), some (aT v1), some (aI v2), some (aI (σ.1 19 (ix v2))), none]) (stk' := [aI (σ.1 19 (ix v2)), aI 0, aT v1, aR 5 0 8, aR 8 0 2, aR 1 0 47]) (σ' := σ) (g := [inb v2 8]) (by decide +kernel) rfl hg ?_
      obtain ⟨r3, σ2, h1, h⟩ := bnd_some h
      refine aw_cV (P' := pX1_rateToday) (idx := 367) (d' := 5) (c := 1) (n := 0) (k := 47) [aR 8 0 2, aR 5 0 8, aT v1, aI 0, aI (σ.1 19 (ix v2))] [] (ov := (some (aI r3))) (stk2 := [aI r3]) okp_X1_rateToday (by decide +kernel) ml_RX11_367 vok_X1_rateToday (by decide) rfl nar_X1_rateToday (by decide) rfl (Nat.le_of_ble_eq_true rfl) (ok_X1_rateToday h1) rfl ?_
      obtain ⟨hg, h⟩ := grd_some h
      refine aw_seq [(.istore 4, 2, ax0), (.iload 4, 2, ax0), (.aload_n 0, 1, ax0), (.getfield 10, 3, (axF 11 0 (2, 1, 10, some 0))), (.getfield 332, 3, (axF 10 13 (2, 19, 13, some 8))), (.iload_n 2, 1, ax0), (.iaload, 1, ax0)] (pc' := 60) (L' := [some (aR 11 0 0), some (aT v1), some (aI v2), some (aI (σ.1 19 (ix v2))), some (aI r3)]) (stk' := [aI (σ2.1 20 (ix v2)), aI r3]) (σ' := σ2) (g := [inb v2 8]) (by decide +kernel) rfl hg ?_
      refine aw_icmp_eq (off := 5) (tgt := 65) (by decide +kernel) (by decide) (fun c1 => ?_) (fun c1 => ?_)
      · rw [if_pos c1] at h
        refine aw_seq [(.iinc 2 1, 3, (axI 1))] (pc' := 68) (L' := [some (aR 11 0 0), some (aT v1), some (aI (v2 + 1)), some (aI (σ.1 19 (ix v2))), some (aI r3)]) (stk' := []) (σ' := σ2) (g := []) (by decide +kernel) rfl rfl ?_
        refine aw_goto (off := (-66)) (tgt := 2) (by decide +kernel) (by decide) ?_
        refine aw_forget (L' := [some (aR 11 0 0), some (aT v1), some (aI (v2 + 1)), none, none]) (lsub_s (lsub_s (lsub_s (lsub_n (lsub_n (lsub_0)))))) ?_
        exact ih v1 (v2 + 1) σ2 _ h
      · rw [if_neg c1] at h
        refine aw_seq [(.iconst 0, 1, (axI 0))] (pc' := 64) (L' := [some (aR 11 0 0), some (aT v1), some (aI v2), some (aI (σ.1 19 (ix v2))), some (aI r3)]) (stk' := [aI 0]) (σ' := σ2) (g := []) (by decide +kernel) rfl rfl ?_
        cases h
        exact aw_zret rfl bz_0 (by decide +kernel)
def f_X11_coolsAsTold (κ : Kd) (r : Option Nat) (σ : Sg) : Option (Int32 × Sg) :=
  f_X11_coolsAsTold_2 κ FU r 0 σ
set_option maxRecDepth 100000 in
set_option maxHeartbeats 4000000 in
theorem ok_X11_coolsAsTold {κ : Kd} {r : Option Nat} {σ : Sg} {q : (Int32 × Sg)} (h : f_X11_coolsAsTold κ r σ = some q) : AMet κ pX11_coolsAsTold 6 [aR 11 0 0, aT r] σ (some (aI q.1), q.2) := by
  unfold f_X11_coolsAsTold at h
  refine amet_of okp_X11_coolsAsTold [(false, aR 11 0 0), (false, aT r)] (List.forall_mem_cons.mpr ⟨rfl, List.forall_mem_cons.mpr ⟨isL_aT _, (fun _ hn => absurd hn List.not_mem_nil)⟩⟩) 3 rfl ?_
  show AW κ pX11_coolsAsTold 6 (some (aI q.1), q.2) 0 [some (aR 11 0 0), some (aT r), none, none, none] [] σ
  refine aw_seq [(.iconst 0, 1, (axI 0)), (.istore_n 2, 1, ax0)] (pc' := 2) (L' := [some (aR 11 0 0), some (aT r), some (aI 0), none, none]) (stk' := []) (σ' := σ) (g := []) (by decide +kernel) rfl rfl ?_
  refine aw_forget (L' := [some (aR 11 0 0), some (aT r), some (aI 0), none, none]) (lsub_s (lsub_s (lsub_s (lsub_n (lsub_n (lsub_0)))))) ?_
  exact ok_X11_coolsAsTold_2 FU r 0 σ _ h
def f_X11_whose_36 (κ : Kd) (rec_4 : Int32 → Int32 → Sg → Option (Int32 × Sg)) (v1 : Int32) (v2 : Int32) (σ : Sg) : Option (Int32 × Sg) :=
  rec_4 v1 (v2 + 1) σ
set_option maxRecDepth 100000 in
set_option maxHeartbeats 4000000 in
theorem ok_X11_whose_36 {κ : Kd}   {rec_4 : Int32 → Int32 → Sg → Option (Int32 × Sg)} (hrec_4 : ∀ (v1 : Int32) (v2 : Int32) (σ : Sg) (q : (Int32 × Sg)), rec_4 v1 v2 σ = some q → AW κ pX11_whose 7 (some (aI q.1), q.2) 4 [some (aR 11 0 0), some (aI v1), some (aI v2)] [] σ) : ∀ (v1 : Int32) (v2 : Int32) (σ : Sg) (q : (Int32 × Sg)), f_X11_whose_36 κ rec_4 v1 v2 σ = some q → AW κ pX11_whose 7 (some (aI q.1), q.2) 36 [some (aR 11 0 0), some (aI v1), some (aI v2)] [] σ := by
  intro v1 v2 σ q h
  unfold f_X11_whose_36 at h
  refine aw_seq [(.iinc 2 1, 3, (axI 1))] (pc' := 39) (L' := [some (aR 11 0 0), some (aI v1), some (aI (v2 + 1))]) (stk' := []) (σ' := σ) (g := []) (by decide +kernel) rfl rfl ?_
  refine aw_goto (off := (-35)) (tgt := 4) (by decide +kernel) (by decide) ?_
  refine aw_forget (L' := [some (aR 11 0 0), some (aI v1), some (aI (v2 + 1))]) (lsub_s (lsub_s (lsub_s (lsub_0)))) ?_
  exact hrec_4 v1 (v2 + 1) σ _ h
def f_X11_whose_4 (κ : Kd)  : Nat → Int32 → Int32 → Sg → Option (Int32 × Sg)
  | 0, _, _, _ => none
  | fu + 1, v1, v2, σ =>
    if (σ.1 1 4) ≤ v2 then (
      some (v1, σ)
    ) else (
      bnd (f_X10_textOf 1 v2 σ) fun r3 σ2 =>
      bnd (f_X11_coolsAsTold κ r3 σ2) fun r6 σ5 =>
      if r6 = 0 then (
        f_X11_whose_36 κ (f_X11_whose_4 κ fu) v1 v2 σ5
      ) else (
        f_X11_whose_36 κ (f_X11_whose_4 κ fu) (v1 ||| (shl 1 v2)) v2 σ5
      )
    )
set_option maxRecDepth 100000 in
set_option maxHeartbeats 4000000 in
theorem ok_X11_whose_4 {κ : Kd}    : ∀ (fu : Nat) (v1 : Int32) (v2 : Int32) (σ : Sg) (q : (Int32 × Sg)), f_X11_whose_4 κ fu v1 v2 σ = some q → AW κ pX11_whose 7 (some (aI q.1), q.2) 4 [some (aR 11 0 0), some (aI v1), some (aI v2)] [] σ := by
  intro fu
  induction fu with
  | zero =>
    intro v1 v2 σ q h
    unfold f_X11_whose_4 at h
    cases h
  | succ fu ih =>
    intro v1 v2 σ q h
    unfold f_X11_whose_4 at h
    refine aw_seq [(.iload_n 2, 1, ax0), (.aload_n 0, 1, ax0), (.getfield 10, 3, (axF 11 0 (2, 1, 10, some 0))), (.getfield 101, 3, (axF 10 4 (0, 0, 0, none)))] (pc' := 12) (L' := [some (aR 11 0 0), some (aI v1), some (aI v2)]) (stk' := [aI (σ.1 1 4), aI v2]) (σ' := σ) (g := []) (by decide +kernel) rfl rfl ?_
    refine aw_icmp_ge (off := 30) (tgt := 42) (by decide +kernel) (by decide) (fun c1 => ?_) (fun c1 => ?_)
    · rw [if_pos c1] at h
      refine aw_seq [(.iload_n 1, 1, ax0)] (pc' := 43) (L' := [some (aR 11 0 0), some (aI v1), some (aI v2)]) (stk' := [aI v1]) (σ' := σ) (g := []) (by decide +kernel) rfl rfl ?_
      cases h
      exact aw_iret rfl (by decide +kernel)
    · rw [if_neg c1] at h
      refine aw_seq [(.aload_n 0, 1, ax0), (.aload_n 0, 1, ax0), (.getfield 10, 3, (axF 11 0 (2, 1, 10, some 0))), (.iload_n 2, 1, ax0)] (pc' := 21) (L' := [some (aR 11 0 0), some (aI v1), some (aI v2)]) (stk' := [aI v2, aR 10 0 1, aR 11 0 0]) (σ' := σ) (g := []) (by decide +kernel) rfl rfl ?_
      obtain ⟨r3, σ2, h1, h⟩ := bnd_some h
      refine aw_cV (P' := pX10_textOf) (idx := 158) (d' := 2) (c := 10) (n := 0) (k := 1) [aI v2] [aR 11 0 0] (ov := (some (aT r3))) (stk2 := [aT r3, aR 11 0 0]) okp_X10_textOf (by decide +kernel) ml_RX11_158 vok_X10_textOf (by decide) rfl nar_X10_textOf (by decide) rfl (Nat.le_of_ble_eq_true rfl) (ok_X10_textOf h1) rfl ?_
      obtain ⟨r6, σ5, h4, h⟩ := bnd_some h
      refine aw_cV (P' := pX11_coolsAsTold) (idx := 335) (d' := 6) (c := 11) (n := 0) (k := 0) [aT r3] [] (ov := (some (aI r6))) (stk2 := [aI r6]) okp_X11_coolsAsTold (by decide +kernel) ml_RX11_335 vok_X11_coolsAsTold (by decide) rfl nar_X11_coolsAsTold (by decide) rfl (Nat.le_of_ble_eq_true rfl) (ok_X11_coolsAsTold h4) rfl ?_
      refine aw_if_eq (off := 9) (tgt := 36) (by decide +kernel) (by decide) (fun c1 => ?_) (fun c1 => ?_)
      · rw [if_pos c1] at h
        refine aw_forget (L' := [some (aR 11 0 0), some (aI v1), some (aI v2)]) (lsub_s (lsub_s (lsub_s (lsub_0)))) ?_
        exact ok_X11_whose_36 ih v1 v2 σ5 _ h
      · rw [if_neg c1] at h
        refine aw_seq [(.iload_n 1, 1, ax0), (.iconst 1, 1, (axI 1)), (.iload_n 2, 1, ax0), (.ishl, 1, ax0), (.ior, 1, ax0), (.istore_n 1, 1, ax0)] (pc' := 36) (L' := [some (aR 11 0 0), some (aI (v1 ||| (shl 1 v2))), some (aI v2)]) (stk' := []) (σ' := σ5) (g := []) (by decide +kernel) rfl rfl ?_
        refine aw_forget (L' := [some (aR 11 0 0), some (aI (v1 ||| (shl 1 v2))), some (aI v2)]) (lsub_s (lsub_s (lsub_s (lsub_0)))) ?_
        exact ok_X11_whose_36 ih (v1 ||| (shl 1 v2)) v2 σ5 _ h
def f_X11_whose (κ : Kd) (σ : Sg) : Option (Int32 × Sg) :=
  f_X11_whose_4 κ FU 0 0 σ
set_option maxRecDepth 100000 in
set_option maxHeartbeats 4000000 in
theorem ok_X11_whose {κ : Kd}  {σ : Sg} {q : (Int32 × Sg)} (h : f_X11_whose κ σ = some q) : AMet κ pX11_whose 7 [aR 11 0 0] σ (some (aI q.1), q.2) := by
  unfold f_X11_whose at h
  refine amet_of okp_X11_whose [(false, aR 11 0 0)] (List.forall_mem_cons.mpr ⟨rfl, (fun _ hn => absurd hn List.not_mem_nil)⟩) 2 rfl ?_
  show AW κ pX11_whose 7 (some (aI q.1), q.2) 0 [some (aR 11 0 0), none, none] [] σ
  refine aw_seq [(.iconst 0, 1, (axI 0)), (.istore_n 1, 1, ax0), (.iconst 0, 1, (axI 0)), (.istore_n 2, 1, ax0)] (pc' := 4) (L' := [some (aR 11 0 0), some (aI 0), some (aI 0)]) (stk' := []) (σ' := σ) (g := []) (by decide +kernel) rfl rfl ?_
  refine aw_forget (L' := [some (aR 11 0 0), some (aI 0), some (aI 0)]) (lsub_s (lsub_s (lsub_s (lsub_0)))) ?_
  exact ok_X11_whose_4 FU 0 0 σ _ h
def f_X11_befell_28    (σ : Sg) : Option (Int32 × Sg) :=
  some ((-2), σ)
set_option maxRecDepth 100000 in
set_option maxHeartbeats 4000000 in
theorem ok_X11_befell_28 {κ : Kd}    : ∀  (σ : Sg) (q : (Int32 × Sg)), f_X11_befell_28  σ = some q → AW κ pX11_befell 2 (some (aI q.1), q.2) 28 [none, none, none, none, none, none] [] σ := by
  intro  σ q h
  unfold f_X11_befell_28 at h
  refine aw_seq [(.bipush (-2), 2, (axI (-2)))] (pc' := 30) (L' := [none, none, none, none, none, none]) (stk' := [aI (-2)]) (σ' := σ) (g := []) (by decide +kernel) rfl rfl ?_
  cases h
  exact aw_iret rfl (by decide +kernel)
def f_X11_befell_92  (rec_36 : Int32 → Int32 → Int32 → Int32 → Sg → Option (Int32 × Sg)) (v1 : Int32) (v2 : Int32) (v3 : Int32) (v4 : Int32) (σ : Sg) : Option (Int32 × Sg) :=
  rec_36 v1 v2 v3 (v4 + 1) σ
set_option maxRecDepth 100000 in
set_option maxHeartbeats 4000000 in
theorem ok_X11_befell_92 {κ : Kd}   {rec_36 : Int32 → Int32 → Int32 → Int32 → Sg → Option (Int32 × Sg)} (hrec_36 : ∀ (v1 : Int32) (v2 : Int32) (v3 : Int32) (v4 : Int32) (σ : Sg) (q : (Int32 × Sg)), rec_36 v1 v2 v3 v4 σ = some q → AW κ pX11_befell 2 (some (aI q.1), q.2) 36 [some (aR 11 0 0), some (aI v1), some (aI v2), some (aI v3), some (aI v4), none] [] σ) : ∀ (v1 : Int32) (v2 : Int32) (v3 : Int32) (v4 : Int32) (σ : Sg) (q : (Int32 × Sg)), f_X11_befell_92 rec_36 v1 v2 v3 v4 σ = some q → AW κ pX11_befell 2 (some (aI q.1), q.2) 92 [some (aR 11 0 0), some (aI v1), some (aI v2), some (aI v3), some (aI v4), none] [] σ := by
  intro v1 v2 v3 v4 σ q h
  unfold f_X11_befell_92 at h
  refine aw_seq [(.iinc 4 1, 3, (axI 1))] (pc' := 95) (L' := [some (aR 11 0 0), some (aI v1), some (aI v2), some (aI v3), some (aI (v4 + 1)), none]) (stk' := []) (σ' := σ) (g := []) (by decide +kernel) rfl rfl ?_
  refine aw_goto (off := (-59)) (tgt := 36) (by decide +kernel) (by decide) ?_
  refine aw_forget (L' := [some (aR 11 0 0), some (aI v1), some (aI v2), some (aI v3), some (aI (v4 + 1)), none]) (lsub_s (lsub_s (lsub_s (lsub_s (lsub_s (lsub_n (lsub_0))))))) ?_
  exact hrec_36 v1 v2 v3 (v4 + 1) σ _ h
def f_X11_befell_89  (rec_36 : Int32 → Int32 → Int32 → Int32 → Sg → Option (Int32 × Sg)) (v1 : Int32) (v2 : Int32) (v3 : Int32) (v4 : Int32) (σ : Sg) : Option (Int32 × Sg) :=
  f_X11_befell_92 rec_36 v1 v2 (v3 + 1) v4 σ
set_option maxRecDepth 100000 in
set_option maxHeartbeats 4000000 in
theorem ok_X11_befell_89 {κ : Kd}   {rec_36 : Int32 → Int32 → Int32 → Int32 → Sg → Option (Int32 × Sg)} (hrec_36 : ∀ (v1 : Int32) (v2 : Int32) (v3 : Int32) (v4 : Int32) (σ : Sg) (q : (Int32 × Sg)), rec_36 v1 v2 v3 v4 σ = some q → AW κ pX11_befell 2 (some (aI q.1), q.2) 36 [some (aR 11 0 0), some (aI v1), some (aI v2), some (aI v3), some (aI v4), none] [] σ) : ∀ (v1 : Int32) (v2 : Int32) (v3 : Int32) (v4 : Int32) (σ : Sg) (q : (Int32 × Sg)), f_X11_befell_89 rec_36 v1 v2 v3 v4 σ = some q → AW κ pX11_befell 2 (some (aI q.1), q.2) 89 [some (aR 11 0 0), some (aI v1), some (aI v2), some (aI v3), some (aI v4), none] [] σ := by
  intro v1 v2 v3 v4 σ q h
  unfold f_X11_befell_89 at h
  refine aw_seq [(.iinc 3 1, 3, (axI 1))] (pc' := 92) (L' := [some (aR 11 0 0), some (aI v1), some (aI v2), some (aI (v3 + 1)), some (aI v4), none]) (stk' := []) (σ' := σ) (g := []) (by decide +kernel) rfl rfl ?_
  refine aw_forget (L' := [some (aR 11 0 0), some (aI v1), some (aI v2), some (aI (v3 + 1)), some (aI v4), none]) (lsub_s (lsub_s (lsub_s (lsub_s (lsub_s (lsub_n (lsub_0))))))) ?_
  exact ok_X11_befell_92 hrec_36 v1 v2 (v3 + 1) v4 σ _ h
def f_X11_befell_36   : Nat → Int32 → Int32 → Int32 → Int32 → Sg → Option (Int32 × Sg)
  | 0, _, _, _, _, _ => none
  | fu + 1, v1, v2, v3, v4, σ =>
    if (σ.1 2 9) ≤ v4 then (
      some (v3, σ)
    ) else (
      grd (inb v4 30 && true) <|
      bnd (f_X8_whatOf (σ.1 7 (ix v4)) σ) fun r3 σ2 =>
      if r3 = v2 then (
        if v1 = (-1) then (
          f_X11_befell_89 (f_X11_befell_36 fu) v1 v2 v3 v4 σ2
        ) else (
          bnd (f_X8_houseOf (σ.1 7 (ix v4)) σ2) fun r6 σ5 =>
          if r6 = v1 then (
            f_X11_befell_89 (f_X11_befell_36 fu) v1 v2 v3 v4 σ5
          ) else (
            f_X11_befell_92 (f_X11_befell_36 fu) v1 v2 v3 v4 σ5
          )
        )
      ) else (
        f_X11_befell_92 (f_X11_befell_36 fu) v1 v2 v3 v4 σ2
      )
    )
set_option maxRecDepth 100000 in
set_option maxHeartbeats 4000000 in
theorem ok_X11_befell_36 {κ : Kd}    : ∀ (fu : Nat) (v1 : Int32) (v2 : Int32) (v3 : Int32) (v4 : Int32) (σ : Sg) (q : (Int32 × Sg)), f_X11_befell_36 fu v1 v2 v3 v4 σ = some q → AW κ pX11_befell 2 (some (aI q.1), q.2) 36 [some (aR 11 0 0), some (aI v1), some (aI v2), some (aI v3), some (aI v4), none] [] σ := by
  intro fu
  induction fu with
  | zero =>
    intro v1 v2 v3 v4 σ q h
    unfold f_X11_befell_36 at h
    cases h
  | succ fu ih =>
    intro v1 v2 v3 v4 σ q h
    unfold f_X11_befell_36 at h
    refine aw_seq [(.iload 4, 2, ax0), (.aload_n 0, 1, ax0), (.getfield 10, 3, (axF 11 0 (2, 1, 10, some 0))), (.getfield 68, 3, (axF 10 0 (2, 1, 8, some 0))), (.getfield 219, 3, (axF 8 9 (0, 0, 0, none)))] (pc' := 48) (L' := [some (aR 11 0 0), some (aI v1), some (aI v2), some (aI v3), some (aI v4), none]) (stk' := [aI (σ.1 2 9), aI v4]) (σ' := σ) (g := []) (by decide +kernel) rfl rfl ?_
    refine aw_icmp_ge (off := 50) (tgt := 98) (by decide +kernel) (by decide) (fun c1 => ?_) (fun c1 => ?_)
    · rw [if_pos c1] at h
      refine aw_seq [(.iload_n 3, 1, ax0)] (pc' := 99) (L' := [some (aR 11 0 0), some (aI v1), some (aI v2), some (aI v3), some (aI v4), none]) (stk' := [aI v3]) (σ' := σ) (g := []) (by decide +kernel) rfl rfl ?_
      cases h
      exact aw_iret rfl (by decide +kernel)
    · rw [if_neg c1] at h
      obtain ⟨hg, h⟩ := grd_some h
      refine aw_seq [(.aload_n 0, 1, ax0), (.getfield 10, 3, (axF 11 0 (2, 1, 10, some 0))), (.getfield 68, 3, (axF 10 0 (2, 1, 8, some 0))), (.getfield 222, 3, (axF 8 8 (2, 5, 13, some 30))), (.iload 4, 2, ax0), (.iaload, 1, ax0), (.istore 5, 2, ax0), (.iload 5, 2, ax0)] (pc' := 68) (L' := [some (aR 11 0 0), some (aI v1), some (aI v2), some (aI v3), some (aI v4), some (aI (σ.1 7 (ix v4)))]) (stk' := [aI (σ.1 7 (ix v4))]) (σ' := σ) (g := [inb v4 30]) (by decide +kernel) rfl hg ?_
      obtain ⟨r3, σ2, h1, h⟩ := bnd_some h
      refine aw_cS (P' := pX8_whatOf) (idx := 231) (d' := 1) [aI (σ.1 7 (ix v4))] [] (ov := (some (aI r3))) (stk2 := [aI r3]) okp_X8_whatOf (by decide +kernel) ml_RX11_231 tok_X8_whatOf nar_X8_whatOf (by decide) rfl (Nat.le_of_ble_eq_true rfl) (ok_X8_whatOf h1) rfl ?_
      refine aw_seq [(.iload_n 2, 1, ax0)] (pc' := 72) (L' := [some (aR 11 0 0), some (aI v1), some (aI v2), some (aI v3), some (aI v4), some (aI (σ.1 7 (ix v4)))]) (stk' := [aI v2, aI r3]) (σ' := σ2) (g := []) (by decide +kernel) rfl rfl ?_
      refine aw_icmp_ne (off := 20) (tgt := 92) (by decide +kernel) (by decide) (fun c1 => ?_) (fun c1 => ?_)
      · rw [if_neg c1] at h
        refine aw_forget (L' := [some (aR 11 0 0), some (aI v1), some (aI v2), some (aI v3), some (aI v4), none]) (lsub_s (lsub_s (lsub_s (lsub_s (lsub_s (lsub_n (lsub_0))))))) ?_
        exact ok_X11_befell_92 ih v1 v2 v3 v4 σ2 _ h
      · rw [if_pos c1] at h
        refine aw_seq [(.iload_n 1, 1, ax0), (.iconst (-1), 1, (axI (-1)))] (pc' := 77) (L' := [some (aR 11 0 0), some (aI v1), some (aI v2), some (aI v3), some (aI v4), some (aI (σ.1 7 (ix v4)))]) (stk' := [aI (-1), aI v1]) (σ' := σ2) (g := []) (by decide +kernel) rfl rfl ?_
        refine aw_icmp_eq (off := 12) (tgt := 89) (by decide +kernel) (by decide) (fun c1 => ?_) (fun c1 => ?_)
        · rw [if_pos c1] at h
          refine aw_forget (L' := [some (aR 11 0 0), some (aI v1), some (aI v2), some (aI v3), some (aI v4), none]) (lsub_s (lsub_s (lsub_s (lsub_s (lsub_s (lsub_n (lsub_0))))))) ?_
          exact ok_X11_befell_89 ih v1 v2 v3 v4 σ2 _ h
        · rw [if_neg c1] at h
          refine aw_seq [(.iload 5, 2, ax0)] (pc' := 82) (L' := [some (aR 11 0 0), some (aI v1), some (aI v2), some (aI v3), some (aI v4), some (aI (σ.1 7 (ix v4)))]) (stk' := [aI (σ.1 7 (ix v4))]) (σ' := σ2) (g := []) (by decide +kernel) rfl rfl ?_
          obtain ⟨r6, σ5, h4, h⟩ := bnd_some h
          refine aw_cS (P' := pX8_houseOf) (idx := 228) (d' := 1) [aI (σ.1 7 (ix v4))] [] (ov := (some (aI r6))) (stk2 := [aI r6]) okp_X8_houseOf (by decide +kernel) ml_RX11_228 tok_X8_houseOf nar_X8_houseOf (by decide) rfl (Nat.le_of_ble_eq_true rfl) (ok_X8_houseOf h4) rfl ?_
          refine aw_seq [(.iload_n 1, 1, ax0)] (pc' := 86) (L' := [some (aR 11 0 0), some (aI v1), some (aI v2), some (aI v3), some (aI v4), some (aI (σ.1 7 (ix v4)))]) (stk' := [aI v1, aI r6]) (σ' := σ5) (g := []) (by decide +kernel) rfl rfl ?_
          refine aw_icmp_ne (off := 6) (tgt := 92) (by decide +kernel) (by decide) (fun c1 => ?_) (fun c1 => ?_)
          · rw [if_neg c1] at h
            refine aw_forget (L' := [some (aR 11 0 0), some (aI v1), some (aI v2), some (aI v3), some (aI v4), none]) (lsub_s (lsub_s (lsub_s (lsub_s (lsub_s (lsub_n (lsub_0))))))) ?_
            exact ok_X11_befell_92 ih v1 v2 v3 v4 σ5 _ h
          · rw [if_pos c1] at h
            refine aw_forget (L' := [some (aR 11 0 0), some (aI v1), some (aI v2), some (aI v3), some (aI v4), none]) (lsub_s (lsub_s (lsub_s (lsub_s (lsub_s (lsub_n (lsub_0))))))) ?_
            exact ok_X11_befell_89 ih v1 v2 v3 v4 σ5 _ h
def f_X11_befell_19   (v1 : Int32) (v2 : Int32) (σ : Sg) : Option (Int32 × Sg) :=
  bnd (f_X11_within v2 0 5 σ) fun r9 σ8 =>
  if r9 = 0 then (
    f_X11_befell_28 σ8
  ) else (
    f_X11_befell_36 FU v1 v2 0 0 σ8
  )
set_option maxRecDepth 100000 in
set_option maxHeartbeats 4000000 in
theorem ok_X11_befell_19 {κ : Kd}    : ∀ (v1 : Int32) (v2 : Int32) (σ : Sg) (q : (Int32 × Sg)), f_X11_befell_19 v1 v2 σ = some q → AW κ pX11_befell 2 (some (aI q.1), q.2) 19 [some (aR 11 0 0), some (aI v1), some (aI v2), none, none, none] [] σ := by
  intro v1 v2 σ q h
  unfold f_X11_befell_19 at h
  refine aw_seq [(.iload_n 2, 1, ax0), (.iconst 0, 1, (axI 0)), (.iconst 5, 1, (axI 5))] (pc' := 22) (L' := [some (aR 11 0 0), some (aI v1), some (aI v2), none, none, none]) (stk' := [aI 5, aI 0, aI v2]) (σ' := σ) (g := []) (by decide +kernel) rfl rfl ?_
  obtain ⟨r9, σ8, h7, h⟩ := bnd_some h
  refine aw_cS (P' := pX11_within) (idx := 79) (d' := 1) [aI v2, aI 0, aI 5] [] (ov := (some (aI r9))) (stk2 := [aI r9]) okp_X11_within (by decide +kernel) ml_RX11_79 tok_X11_within nar_X11_within (by decide) rfl (Nat.le_of_ble_eq_true rfl) (ok_X11_within h7) rfl ?_
  refine aw_if_ne (off := 6) (tgt := 31) (by decide +kernel) (by decide) (fun c1 => ?_) (fun c1 => ?_)
  · rw [if_neg c1] at h
    refine aw_seq [(.iconst 0, 1, (axI 0)), (.istore_n 3, 1, ax0), (.iconst 0, 1, (axI 0)), (.istore 4, 2, ax0)] (pc' := 36) (L' := [some (aR 11 0 0), some (aI v1), some (aI v2), some (aI 0), some (aI 0), none]) (stk' := []) (σ' := σ8) (g := []) (by decide +kernel) rfl rfl ?_
    refine aw_forget (L' := [some (aR 11 0 0), some (aI v1), some (aI v2), some (aI 0), some (aI 0), none]) (lsub_s (lsub_s (lsub_s (lsub_s (lsub_s (lsub_n (lsub_0))))))) ?_
    exact ok_X11_befell_36 FU v1 v2 0 0 σ8 _ h
  · rw [if_pos c1] at h
    refine aw_forget (L' := [none, none, none, none, none, none]) (lsub_n (lsub_n (lsub_n (lsub_n (lsub_n (lsub_n (lsub_0))))))) ?_
    exact ok_X11_befell_28 σ8 _ h
def f_X11_befell (v1 : Int32) (v2 : Int32) (σ : Sg) : Option (Int32 × Sg) :=
  if v1 = (-1) then (
    f_X11_befell_19 v1 v2 σ
  ) else (
    bnd (f_X8_told 2 v1 σ) fun r12 σ11 =>
    if r12 = 0 then (
      f_X11_befell_28 σ11
    ) else (
      f_X11_befell_19 v1 v2 σ11
    )
  )
set_option maxRecDepth 100000 in
set_option maxHeartbeats 4000000 in
theorem ok_X11_befell {κ : Kd} {v1 : Int32} {v2 : Int32} {σ : Sg} {q : (Int32 × Sg)} (h : f_X11_befell v1 v2 σ = some q) : AMet κ pX11_befell 2 [aR 11 0 0, aI v1, aI v2] σ (some (aI q.1), q.2) := by
  unfold f_X11_befell at h
  refine amet_of okp_X11_befell [(false, aR 11 0 0), (false, aI v1), (false, aI v2)] (List.forall_mem_cons.mpr ⟨rfl, List.forall_mem_cons.mpr ⟨rfl, List.forall_mem_cons.mpr ⟨rfl, (fun _ hn => absurd hn List.not_mem_nil)⟩⟩⟩) 3 rfl ?_
  show AW κ pX11_befell 2 (some (aI q.1), q.2) 0 [some (aR 11 0 0), some (aI v1), some (aI v2), none, none, none] [] σ
  refine aw_seq [(.iload_n 1, 1, ax0), (.iconst (-1), 1, (axI (-1)))] (pc' := 2) (L' := [some (aR 11 0 0), some (aI v1), some (aI v2), none, none, none]) (stk' := [aI (-1), aI v1]) (σ' := σ) (g := []) (by decide +kernel) rfl rfl ?_
  refine aw_icmp_eq (off := 17) (tgt := 19) (by decide +kernel) (by decide) (fun c1 => ?_) (fun c1 => ?_)
  · rw [if_pos c1] at h
    refine aw_forget (L' := [some (aR 11 0 0), some (aI v1), some (aI v2), none, none, none]) (lsub_s (lsub_s (lsub_s (lsub_n (lsub_n (lsub_n (lsub_0))))))) ?_
    exact ok_X11_befell_19 v1 v2 σ _ h
  · rw [if_neg c1] at h
    refine aw_seq [(.aload_n 0, 1, ax0), (.getfield 10, 3, (axF 11 0 (2, 1, 10, some 0))), (.getfield 68, 3, (axF 10 0 (2, 1, 8, some 0))), (.iload_n 1, 1, ax0)] (pc' := 13) (L' := [some (aR 11 0 0), some (aI v1), some (aI v2), none, none, none]) (stk' := [aI v1, aR 8 0 2]) (σ' := σ) (g := []) (by decide +kernel) rfl rfl ?_
    obtain ⟨r12, σ11, h10, h⟩ := bnd_some h
    refine aw_cV (P' := pX8_told) (idx := 75) (d' := 1) (c := 8) (n := 0) (k := 2) [aI v1] [] (ov := (some (aI r12))) (stk2 := [aI r12]) okp_X8_told (by decide +kernel) ml_RX11_75 vok_X8_told (by decide) rfl nar_X8_told (by decide) rfl (Nat.le_of_ble_eq_true rfl) (ok_X8_told h10) rfl ?_
    refine aw_if_eq (off := 12) (tgt := 28) (by decide +kernel) (by decide) (fun c1 => ?_) (fun c1 => ?_)
    · rw [if_pos c1] at h
      refine aw_forget (L' := [none, none, none, none, none, none]) (lsub_n (lsub_n (lsub_n (lsub_n (lsub_n (lsub_n (lsub_0))))))) ?_
      exact ok_X11_befell_28 σ11 _ h
    · rw [if_neg c1] at h
      refine aw_forget (L' := [some (aR 11 0 0), some (aI v1), some (aI v2), none, none, none]) (lsub_s (lsub_s (lsub_s (lsub_n (lsub_n (lsub_n (lsub_0))))))) ?_
      exact ok_X11_befell_19 v1 v2 σ11 _ h
def f_X11_parts  (σ : Sg) : Option (Int32 × Sg) :=
  bnd (f_X8_all 2 σ) fun r3 σ2 =>
  bnd (f_X5_groups 8 r3 σ2) fun r6 σ5 =>
  some (r6, σ5)
set_option maxRecDepth 100000 in
set_option maxHeartbeats 4000000 in
theorem ok_X11_parts {κ : Kd}  {σ : Sg} {q : (Int32 × Sg)} (h : f_X11_parts σ = some q) : AMet κ pX11_parts 4 [aR 11 0 0] σ (some (aI q.1), q.2) := by
  unfold f_X11_parts at h
  refine amet_of okp_X11_parts [(false, aR 11 0 0)] (List.forall_mem_cons.mpr ⟨rfl, (fun _ hn => absurd hn List.not_mem_nil)⟩) 0 rfl ?_
  show AW κ pX11_parts 4 (some (aI q.1), q.2) 0 [some (aR 11 0 0)] [] σ
  refine aw_seq [(.aload_n 0, 1, ax0), (.getfield 10, 3, (axF 11 0 (2, 1, 10, some 0))), (.getfield 83, 3, (axF 10 1 (2, 7, 5, some 0))), (.aload_n 0, 1, ax0), (.getfield 10, 3, (axF 11 0 (2, 1, 10, some 0))), (.getfield 68, 3, (axF 10 0 (2, 1, 8, some 0)))] (pc' := 14) (L' := [some (aR 11 0 0)]) (stk' := [aR 8 0 2, aR 5 0 8]) (σ' := σ) (g := []) (by decide +kernel) rfl rfl ?_
  obtain ⟨r3, σ2, h1, h⟩ := bnd_some h
  refine aw_cV (P' := pX8_all) (idx := 289) (d' := 1) (c := 8) (n := 0) (k := 2) [] [aR 5 0 8] (ov := (some (aI r3))) (stk2 := [aI r3, aR 5 0 8]) okp_X8_all (by decide +kernel) ml_RX11_289 vok_X8_all (by decide) rfl nar_X8_all (by decide) rfl (Nat.le_of_ble_eq_true rfl) (ok_X8_all h1) rfl ?_
  obtain ⟨r6, σ5, h4, h⟩ := bnd_some h
  refine aw_cV (P' := pX5_groups) (idx := 339) (d' := 3) (c := 5) (n := 0) (k := 8) [aI r3] [] (ov := (some (aI r6))) (stk2 := [aI r6]) okp_X5_groups (by decide +kernel) ml_RX11_339 vok_X5_groups (by decide) rfl nar_X5_groups (by decide) rfl (Nat.le_of_ble_eq_true rfl) (ok_X5_groups h4) rfl ?_
  cases h
  exact aw_iret rfl (by decide +kernel)
def f_X11_warmest_51  (rec_6 : Int32 → Int32 → Int32 → Sg → Option (Int32 × Sg)) (v1 : Int32) (v2 : Int32) (v3 : Int32) (σ : Sg) : Option (Int32 × Sg) :=
  rec_6 v1 v2 (v3 + 1) σ
set_option maxRecDepth 100000 in
set_option maxHeartbeats 4000000 in
theorem ok_X11_warmest_51 {κ : Kd}   {rec_6 : Int32 → Int32 → Int32 → Sg → Option (Int32 × Sg)} (hrec_6 : ∀ (v1 : Int32) (v2 : Int32) (v3 : Int32) (σ : Sg) (q : (Int32 × Sg)), rec_6 v1 v2 v3 σ = some q → AW κ pX11_warmest 1 (some (aI q.1), q.2) 6 [some (aR 11 0 0), some (aI v1), some (aI v2), some (aI v3)] [] σ) : ∀ (v1 : Int32) (v2 : Int32) (v3 : Int32) (σ : Sg) (q : (Int32 × Sg)), f_X11_warmest_51 rec_6 v1 v2 v3 σ = some q → AW κ pX11_warmest 1 (some (aI q.1), q.2) 51 [some (aR 11 0 0), some (aI v1), some (aI v2), some (aI v3)] [] σ := by
  intro v1 v2 v3 σ q h
  unfold f_X11_warmest_51 at h
  refine aw_seq [(.iinc 3 1, 3, (axI 1))] (pc' := 54) (L' := [some (aR 11 0 0), some (aI v1), some (aI v2), some (aI (v3 + 1))]) (stk' := []) (σ' := σ) (g := []) (by decide +kernel) rfl rfl ?_
  refine aw_goto (off := (-48)) (tgt := 6) (by decide +kernel) (by decide) ?_
  refine aw_forget (L' := [some (aR 11 0 0), some (aI v1), some (aI v2), some (aI (v3 + 1))]) (lsub_s (lsub_s (lsub_s (lsub_s (lsub_0))))) ?_
  exact hrec_6 v1 v2 (v3 + 1) σ _ h
def f_X11_warmest_6   : Nat → Int32 → Int32 → Int32 → Sg → Option (Int32 × Sg)
  | 0, _, _, _, _ => none
  | fu + 1, v1, v2, v3, σ =>
    if (σ.1 2 0) ≤ v3 then (
      some (v1, σ)
    ) else (
      grd (inb v3 8 && true) <|
      if (σ.1 6 (ix v3)) ≤ v2 then (
        f_X11_warmest_51 (f_X11_warmest_6 fu) v1 v2 v3 σ
      ) else (
        grd (inb v3 8 && true) <|
        f_X11_warmest_51 (f_X11_warmest_6 fu) v3 (σ.1 6 (ix v3)) v3 σ
      )
    )
set_option maxRecDepth 100000 in
set_option maxHeartbeats 4000000 in
theorem ok_X11_warmest_6 {κ : Kd}    : ∀ (fu : Nat) (v1 : Int32) (v2 : Int32) (v3 : Int32) (σ : Sg) (q : (Int32 × Sg)), f_X11_warmest_6 fu v1 v2 v3 σ = some q → AW κ pX11_warmest 1 (some (aI q.1), q.2) 6 [some (aR 11 0 0), some (aI v1), some (aI v2), some (aI v3)] [] σ := by
  intro fu
  induction fu with
  | zero =>
    intro v1 v2 v3 σ q h
    unfold f_X11_warmest_6 at h
    cases h
  | succ fu ih =>
    intro v1 v2 v3 σ q h
    unfold f_X11_warmest_6 at h
    refine aw_seq [(.iload_n 3, 1, ax0), (.aload_n 0, 1, ax0), (.getfield 10, 3, (axF 11 0 (2, 1, 10, some 0))), (.getfield 68, 3, (axF 10 0 (2, 1, 8, some 0))), (.getfield 312, 3, (axF 8 0 (0, 0, 0, none)))] (pc' := 17) (L' := [some (aR 11 0 0), some (aI v1), some (aI v2), some (aI v3)]) (stk' := [aI (σ.1 2 0), aI v3]) (σ' := σ) (g := []) (by decide +kernel) rfl rfl ?_
    refine aw_icmp_ge (off := 40) (tgt := 57) (by decide +kernel) (by decide) (fun c1 => ?_) (fun c1 => ?_)
    · rw [if_pos c1] at h
      refine aw_seq [(.iload_n 1, 1, ax0)] (pc' := 58) (L' := [some (aR 11 0 0), some (aI v1), some (aI v2), some (aI v3)]) (stk' := [aI v1]) (σ' := σ) (g := []) (by decide +kernel) rfl rfl ?_
      cases h
      exact aw_iret rfl (by decide +kernel)
    · rw [if_neg c1] at h
      obtain ⟨hg, h⟩ := grd_some h
      refine aw_seq [(.aload_n 0, 1, ax0), (.getfield 10, 3, (axF 11 0 (2, 1, 10, some 0))), (.getfield 68, 3, (axF 10 0 (2, 1, 8, some 0))), (.getfield 130, 3, (axF 8 4 (2, 4, 13, some 8))), (.iload_n 3, 1, ax0), (.iaload, 1, ax0), (.iload_n 2, 1, ax0)] (pc' := 33) (L' := [some (aR 11 0 0), some (aI v1), some (aI v2), some (aI v3)]) (stk' := [aI v2, aI (σ.1 6 (ix v3))]) (σ' := σ) (g := [inb v3 8]) (by decide +kernel) rfl hg ?_
      refine aw_icmp_le (off := 18) (tgt := 51) (by decide +kernel) (by decide) (fun c1 => ?_) (fun c1 => ?_)
      · rw [if_pos c1] at h
        refine aw_forget (L' := [some (aR 11 0 0), some (aI v1), some (aI v2), some (aI v3)]) (lsub_s (lsub_s (lsub_s (lsub_s (lsub_0))))) ?_
        exact ok_X11_warmest_51 ih v1 v2 v3 σ _ h
      · rw [if_neg c1] at h
        obtain ⟨hg, h⟩ := grd_some h
        refine aw_seq [(.iload_n 3, 1, ax0), (.istore_n 1, 1, ax0), (.aload_n 0, 1, ax0), (.getfield 10, 3, (axF 11 0 (2, 1, 10, some 0))), (.getfield 68, 3, (axF 10 0 (2, 1, 8, some 0))), (.getfield 130, 3, (axF 8 4 (2, 4, 13, some 8))), (.iload_n 3, 1, ax0), (.iaload, 1, ax0), (.istore_n 2, 1, ax0)] (pc' := 51) (L' := [some (aR 11 0 0), some (aI v3), some (aI (σ.1 6 (ix v3))), some (aI v3)]) (stk' := []) (σ' := σ) (g := [inb v3 8]) (by decide +kernel) rfl hg ?_
        refine aw_forget (L' := [some (aR 11 0 0), some (aI v3), some (aI (σ.1 6 (ix v3))), some (aI v3)]) (lsub_s (lsub_s (lsub_s (lsub_s (lsub_0))))) ?_
        exact ok_X11_warmest_51 ih v3 (σ.1 6 (ix v3)) v3 σ _ h
def f_X11_warmest  (σ : Sg) : Option (Int32 × Sg) :=
  f_X11_warmest_6 FU (-1) 0 0 σ
set_option maxRecDepth 100000 in
set_option maxHeartbeats 4000000 in
theorem ok_X11_warmest {κ : Kd}  {σ : Sg} {q : (Int32 × Sg)} (h : f_X11_warmest σ = some q) : AMet κ pX11_warmest 1 [aR 11 0 0] σ (some (aI q.1), q.2) := by
  unfold f_X11_warmest at h
  refine amet_of okp_X11_warmest [(false, aR 11 0 0)] (List.forall_mem_cons.mpr ⟨rfl, (fun _ hn => absurd hn List.not_mem_nil)⟩) 3 rfl ?_
  show AW κ pX11_warmest 1 (some (aI q.1), q.2) 0 [some (aR 11 0 0), none, none, none] [] σ
  refine aw_seq [(.iconst (-1), 1, (axI (-1))), (.istore_n 1, 1, ax0), (.iconst 0, 1, (axI 0)), (.istore_n 2, 1, ax0), (.iconst 0, 1, (axI 0)), (.istore_n 3, 1, ax0)] (pc' := 6) (L' := [some (aR 11 0 0), some (aI (-1)), some (aI 0), some (aI 0)]) (stk' := []) (σ' := σ) (g := []) (by decide +kernel) rfl rfl ?_
  refine aw_forget (L' := [some (aR 11 0 0), some (aI (-1)), some (aI 0), some (aI 0)]) (lsub_s (lsub_s (lsub_s (lsub_s (lsub_0))))) ?_
  exact ok_X11_warmest_6 FU (-1) 0 0 σ _ h
def f_X11_leaves_35  (rec_4 : Int32 → Int32 → Sg → Option (Int32 × Sg)) (v1 : Int32) (v2 : Int32) (σ : Sg) : Option (Int32 × Sg) :=
  rec_4 v1 (v2 + 1) σ
set_option maxRecDepth 100000 in
set_option maxHeartbeats 4000000 in
theorem ok_X11_leaves_35 {κ : Kd}   {rec_4 : Int32 → Int32 → Sg → Option (Int32 × Sg)} (hrec_4 : ∀ (v1 : Int32) (v2 : Int32) (σ : Sg) (q : (Int32 × Sg)), rec_4 v1 v2 σ = some q → AW κ pX11_leaves 2 (some (aI q.1), q.2) 4 [some (aR 11 0 0), some (aI v1), some (aI v2)] [] σ) : ∀ (v1 : Int32) (v2 : Int32) (σ : Sg) (q : (Int32 × Sg)), f_X11_leaves_35 rec_4 v1 v2 σ = some q → AW κ pX11_leaves 2 (some (aI q.1), q.2) 35 [some (aR 11 0 0), some (aI v1), some (aI v2)] [] σ := by
  intro v1 v2 σ q h
  unfold f_X11_leaves_35 at h
  refine aw_seq [(.iinc 2 1, 3, (axI 1))] (pc' := 38) (L' := [some (aR 11 0 0), some (aI v1), some (aI (v2 + 1))]) (stk' := []) (σ' := σ) (g := []) (by decide +kernel) rfl rfl ?_
  refine aw_goto (off := (-34)) (tgt := 4) (by decide +kernel) (by decide) ?_
  refine aw_forget (L' := [some (aR 11 0 0), some (aI v1), some (aI (v2 + 1))]) (lsub_s (lsub_s (lsub_s (lsub_0)))) ?_
  exact hrec_4 v1 (v2 + 1) σ _ h
def f_X11_leaves_4   : Nat → Int32 → Int32 → Sg → Option (Int32 × Sg)
  | 0, _, _, _ => none
  | fu + 1, v1, v2, σ =>
    if 8 ≤ v2 then (
      some (v1, σ)
    ) else (
      grd (inb v2 8 && true) <|
      bnd (f_J6_bitCount_0f7a4 (σ.1 10 (ix v2)) σ) fun r3 σ2 =>
      if r3 = 1 then (
        f_X11_leaves_35 (f_X11_leaves_4 fu) (v1 ||| (shl 1 v2)) v2 σ2
      ) else (
        f_X11_leaves_35 (f_X11_leaves_4 fu) v1 v2 σ2
      )
    )
set_option maxRecDepth 100000 in
set_option maxHeartbeats 4000000 in
theorem ok_X11_leaves_4 {κ : Kd}    : ∀ (fu : Nat) (v1 : Int32) (v2 : Int32) (σ : Sg) (q : (Int32 × Sg)), f_X11_leaves_4 fu v1 v2 σ = some q → AW κ pX11_leaves 2 (some (aI q.1), q.2) 4 [some (aR 11 0 0), some (aI v1), some (aI v2)] [] σ := by
  intro fu
  induction fu with
  | zero =>
    intro v1 v2 σ q h
    unfold f_X11_leaves_4 at h
    cases h
  | succ fu ih =>
    intro v1 v2 σ q h
    unfold f_X11_leaves_4 at h
    refine aw_seq [(.iload_n 2, 1, ax0), (.bipush 8, 2, (axI 8))] (pc' := 7) (L' := [some (aR 11 0 0), some (aI v1), some (aI v2)]) (stk' := [aI 8, aI v2]) (σ' := σ) (g := []) (by decide +kernel) rfl rfl ?_
    refine aw_icmp_ge (off := 34) (tgt := 41) (by decide +kernel) (by decide) (fun c1 => ?_) (fun c1 => ?_)
    · rw [if_pos c1] at h
      refine aw_seq [(.iload_n 1, 1, ax0)] (pc' := 42) (L' := [some (aR 11 0 0), some (aI v1), some (aI v2)]) (stk' := [aI v1]) (σ' := σ) (g := []) (by decide +kernel) rfl rfl ?_
      cases h
      exact aw_iret rfl (by decide +kernel)
    · rw [if_neg c1] at h
      obtain ⟨hg, h⟩ := grd_some h
      refine aw_seq [(.aload_n 0, 1, ax0), (.getfield 10, 3, (axF 11 0 (2, 1, 10, some 0))), (.getfield 83, 3, (axF 10 1 (2, 7, 5, some 0))), (.getfield 342, 3, (axF 5 1 (2, 2, 13, some 8))), (.iload_n 2, 1, ax0), (.iaload, 1, ax0)] (pc' := 22) (L' := [some (aR 11 0 0), some (aI v1), some (aI v2)]) (stk' := [aI (σ.1 10 (ix v2))]) (σ' := σ) (g := [inb v2 8]) (by decide +kernel) rfl hg ?_
      obtain ⟨r3, σ2, h1, h⟩ := bnd_some h
      refine aw_cS (P' := pJ6_bitCount_0f7a4) (idx := 241) (d' := 1) [aI (σ.1 10 (ix v2))] [] (ov := (some (aI r3))) (stk2 := [aI r3]) okp_J6_bitCount_0f7a4 (by decide +kernel) ml_RX11_241 tok_J6_bitCount_0f7a4 nar_J6_bitCount_0f7a4 (by decide) rfl (Nat.le_of_ble_eq_true rfl) (ok_J6_bitCount_0f7a4 h1) rfl ?_
      refine aw_seq [(.iconst 1, 1, (axI 1))] (pc' := 26) (L' := [some (aR 11 0 0), some (aI v1), some (aI v2)]) (stk' := [aI 1, aI r3]) (σ' := σ2) (g := []) (by decide +kernel) rfl rfl ?_
      refine aw_icmp_ne (off := 9) (tgt := 35) (by decide +kernel) (by decide) (fun c1 => ?_) (fun c1 => ?_)
      · rw [if_neg c1] at h
        refine aw_forget (L' := [some (aR 11 0 0), some (aI v1), some (aI v2)]) (lsub_s (lsub_s (lsub_s (lsub_0)))) ?_
        exact ok_X11_leaves_35 ih v1 v2 σ2 _ h
      · rw [if_pos c1] at h
        refine aw_seq [(.iload_n 1, 1, ax0), (.iconst 1, 1, (axI 1)), (.iload_n 2, 1, ax0), (.ishl, 1, ax0), (.ior, 1, ax0), (.istore_n 1, 1, ax0)] (pc' := 35) (L' := [some (aR 11 0 0), some (aI (v1 ||| (shl 1 v2))), some (aI v2)]) (stk' := []) (σ' := σ2) (g := []) (by decide +kernel) rfl rfl ?_
        refine aw_forget (L' := [some (aR 11 0 0), some (aI (v1 ||| (shl 1 v2))), some (aI v2)]) (lsub_s (lsub_s (lsub_s (lsub_0)))) ?_
        exact ok_X11_leaves_35 ih (v1 ||| (shl 1 v2)) v2 σ2 _ h
def f_X11_leaves  (σ : Sg) : Option (Int32 × Sg) :=
  f_X11_leaves_4 FU 0 0 σ
set_option maxRecDepth 100000 in
set_option maxHeartbeats 4000000 in
theorem ok_X11_leaves {κ : Kd}  {σ : Sg} {q : (Int32 × Sg)} (h : f_X11_leaves σ = some q) : AMet κ pX11_leaves 2 [aR 11 0 0] σ (some (aI q.1), q.2) := by
  unfold f_X11_leaves at h
  refine amet_of okp_X11_leaves [(false, aR 11 0 0)] (List.forall_mem_cons.mpr ⟨rfl, (fun _ hn => absurd hn List.not_mem_nil)⟩) 2 rfl ?_
  show AW κ pX11_leaves 2 (some (aI q.1), q.2) 0 [some (aR 11 0 0), none, none] [] σ
  refine aw_seq [(.iconst 0, 1, (axI 0)), (.istore_n 1, 1, ax0), (.iconst 0, 1, (axI 0)), (.istore_n 2, 1, ax0)] (pc' := 4) (L' := [some (aR 11 0 0), some (aI 0), some (aI 0)]) (stk' := []) (σ' := σ) (g := []) (by decide +kernel) rfl rfl ?_
  refine aw_forget (L' := [some (aR 11 0 0), some (aI 0), some (aI 0)]) (lsub_s (lsub_s (lsub_s (lsub_0)))) ?_
  exact ok_X11_leaves_4 FU 0 0 σ _ h
def f_X11_kept  (σ : Sg) : Option (Int32 × Sg) :=
  bnd (f_X8_housesBy 2 1 2 σ) fun r3 σ2 =>
  some (r3, σ2)
set_option maxRecDepth 100000 in
set_option maxHeartbeats 4000000 in
theorem ok_X11_kept {κ : Kd}  {σ : Sg} {q : (Int32 × Sg)} (h : f_X11_kept σ = some q) : AMet κ pX11_kept 2 [aR 11 0 0] σ (some (aI q.1), q.2) := by
  unfold f_X11_kept at h
  refine amet_of okp_X11_kept [(false, aR 11 0 0)] (List.forall_mem_cons.mpr ⟨rfl, (fun _ hn => absurd hn List.not_mem_nil)⟩) 0 rfl ?_
  show AW κ pX11_kept 2 (some (aI q.1), q.2) 0 [some (aR 11 0 0)] [] σ
  refine aw_seq [(.aload_n 0, 1, ax0), (.getfield 10, 3, (axF 11 0 (2, 1, 10, some 0))), (.getfield 68, 3, (axF 10 0 (2, 1, 8, some 0))), (.iconst 1, 1, (axI 1)), (.iconst 2, 1, (axI 2))] (pc' := 9) (L' := [some (aR 11 0 0)]) (stk' := [aI 2, aI 1, aR 8 0 2]) (σ' := σ) (g := []) (by decide +kernel) rfl rfl ?_
  obtain ⟨r3, σ2, h1, h⟩ := bnd_some h
  refine aw_cV (P' := pX8_housesBy) (idx := 206) (d' := 1) (c := 8) (n := 0) (k := 2) [aI 1, aI 2] [] (ov := (some (aI r3))) (stk2 := [aI r3]) okp_X8_housesBy (by decide +kernel) ml_RX11_206 vok_X8_housesBy (by decide) rfl nar_X8_housesBy (by decide) rfl (Nat.le_of_ble_eq_true rfl) (ok_X8_housesBy h1) rfl ?_
  cases h
  exact aw_iret rfl (by decide +kernel)
def f_X4_copyFrom (p : Nat) (p2 : Nat) (σ : Sg) : Option Sg :=
  grd (cpg 0 0 1770 1770 1770) <|
  ltσ (wC σ (p2 + 1) (ix 0) (p + 1) (ix 0) (ix 1770)) fun σ1 =>
  ltσ (wI σ1 p 1 (σ1.1 p2 1)) fun σ3 =>
  ltσ (wI σ3 p 2 (σ3.1 p2 2)) fun σ5 =>
  some σ5
set_option maxRecDepth 100000 in
set_option maxHeartbeats 4000000 in
theorem ok_X4_copyFrom {κ : Kd} {p : Nat} {p2 : Nat} {σ : Sg} {q : Sg} (h : f_X4_copyFrom p p2 σ = some q) : AMet κ pX4_copyFrom 2 [aR 4 0 p, aR 4 0 p2] σ (none, q) := by
  unfold f_X4_copyFrom at h
  refine amet_of okp_X4_copyFrom [(false, aR 4 0 p), (false, aR 4 0 p2)] (List.forall_mem_cons.mpr ⟨rfl, List.forall_mem_cons.mpr ⟨rfl, (fun _ hn => absurd hn List.not_mem_nil)⟩⟩) 0 rfl ?_
  show AW κ pX4_copyFrom 2 (none, q) 0 [some (aR 4 0 p), some (aR 4 0 p2)] [] σ
  refine aw_seq [(.aload_n 1, 1, ax0), (.getfield 11, 3, (axF 4 0 (2, 1, 13, some 1770))), (.iconst 0, 1, (axI 0)), (.aload_n 0, 1, ax0), (.getfield 11, 3, (axF 4 0 (2, 1, 13, some 1770))), (.iconst 0, 1, (axI 0)), (.aload_n 0, 1, ax0), (.getfield 11, 3, (axF 4 0 (2, 1, 13, some 1770))), (.arraylength, 1, ax0)] (pc' := 15) (L' := [some (aR 4 0 p), some (aR 4 0 p2)]) (stk' := [aI 1770, aI 0, aR 13 1770 (p + 1), aI 0, aR 13 1770 (p2 + 1)]) (σ' := σ) (g := []) (by decide +kernel) rfl rfl ?_
  obtain ⟨hg, h⟩ := grd_some h
  obtain ⟨σ1, e2, h⟩ := ltσ_some h
  refine aw_copyI (idx := 15) (by decide) (Nat.le_of_ble_eq_true rfl) jw_copy ml_RX4_15 (by decide +kernel) hg ?_
  rw [← e2]
  obtain ⟨σ3, e4, h⟩ := ltσ_some h
  refine aw_seq [(.aload_n 0, 1, ax0), (.aload_n 1, 1, ax0), (.getfield 21, 3, (axF 4 1 (0, 0, 0, none))), (.putfield 21, 3, (axF 4 1 (0, 0, 0, none)))] (pc' := 26) (L' := [some (aR 4 0 p), some (aR 4 0 p2)]) (stk' := []) (σ' := σ3) (g := []) (by decide +kernel) (by rw [e4]; rfl) rfl ?_
  obtain ⟨σ5, e6, h⟩ := ltσ_some h
  refine aw_seq [(.aload_n 0, 1, ax0), (.aload_n 1, 1, ax0), (.getfield 25, 3, (axF 4 2 (0, 0, 0, none))), (.putfield 25, 3, (axF 4 2 (0, 0, 0, none)))] (pc' := 34) (L' := [some (aR 4 0 p), some (aR 4 0 p2)]) (stk' := []) (σ' := σ5) (g := []) (by decide +kernel) (by rw [e6]; rfl) rfl ?_
  cases h
  exact aw_vret rfl (by decide +kernel)
def f_X5_copyFrom (s : Nat) (s2 : Nat) (σ : Sg) : Option Sg :=
  grd (cpg 0 0 64 64 64) <|
  ltσ (wC σ (s2 + 1) (ix 0) (s + 1) (ix 0) (ix 64)) fun σ1 =>
  grd (cpg 0 0 8 8 8) <|
  ltσ (wC σ1 (s2 + 2) (ix 0) (s + 2) (ix 0) (ix 8)) fun σ3 =>
  some σ3
set_option maxRecDepth 100000 in
set_option maxHeartbeats 4000000 in
theorem ok_X5_copyFrom {κ : Kd} {s : Nat} {s2 : Nat} {σ : Sg} {q : Sg} (h : f_X5_copyFrom s s2 σ = some q) : AMet κ pX5_copyFrom 2 [aR 5 0 s, aR 5 0 s2] σ (none, q) := by
  unfold f_X5_copyFrom at h
  refine amet_of okp_X5_copyFrom [(false, aR 5 0 s), (false, aR 5 0 s2)] (List.forall_mem_cons.mpr ⟨rfl, List.forall_mem_cons.mpr ⟨rfl, (fun _ hn => absurd hn List.not_mem_nil)⟩⟩) 0 rfl ?_
  show AW κ pX5_copyFrom 2 (none, q) 0 [some (aR 5 0 s), some (aR 5 0 s2)] [] σ
  refine aw_seq [(.aload_n 1, 1, ax0), (.getfield 9, 3, (axF 5 0 (2, 1, 13, some 64))), (.iconst 0, 1, (axI 0)), (.aload_n 0, 1, ax0), (.getfield 9, 3, (axF 5 0 (2, 1, 13, some 64))), (.iconst 0, 1, (axI 0)), (.aload_n 0, 1, ax0), (.getfield 9, 3, (axF 5 0 (2, 1, 13, some 64))), (.arraylength, 1, ax0)] (pc' := 15) (L' := [some (aR 5 0 s), some (aR 5 0 s2)]) (stk' := [aI 64, aI 0, aR 13 64 (s + 1), aI 0, aR 13 64 (s2 + 1)]) (σ' := σ) (g := []) (by decide +kernel) rfl rfl ?_
  obtain ⟨hg, h⟩ := grd_some h
  obtain ⟨σ1, e2, h⟩ := ltσ_some h
  refine aw_copyI (idx := 18) (by decide) (Nat.le_of_ble_eq_true rfl) jw_copy ml_RX5_18 (by decide +kernel) hg ?_
  rw [← e2]
  refine aw_seq [(.aload_n 1, 1, ax0), (.getfield 15, 3, (axF 5 1 (2, 2, 13, some 8))), (.iconst 0, 1, (axI 0)), (.aload_n 0, 1, ax0), (.getfield 15, 3, (axF 5 1 (2, 2, 13, some 8))), (.iconst 0, 1, (axI 0)), (.bipush 8, 2, (axI 8))] (pc' := 30) (L' := [some (aR 5 0 s), some (aR 5 0 s2)]) (stk' := [aI 8, aI 0, aR 13 8 (s + 2), aI 0, aR 13 8 (s2 + 2)]) (σ' := σ1) (g := []) (by decide +kernel) rfl rfl ?_
  obtain ⟨hg, h⟩ := grd_some h
  obtain ⟨σ3, e4, h⟩ := ltσ_some h
  refine aw_copyI (idx := 18) (by decide) (Nat.le_of_ble_eq_true rfl) jw_copy ml_RX5_18 (by decide +kernel) hg ?_
  rw [← e4]
  cases h
  exact aw_vret rfl (by decide +kernel)
def f_X10_copyFrom_35 (w : Nat) (w2 : Nat)  : Nat → Int32 → Sg → Option Sg
  | 0, _, _ => none
  | fu + 1, v2, σ =>
    if 4 ≤ v2 then (
      ltσ (wI σ w 4 (σ.1 w2 4)) fun σ1 =>
      ltσ (wI σ1 w 5 (σ1.1 w2 5)) fun σ3 =>
      grd (cpg 0 0 24 24 24) <|
      ltσ (wC σ3 (w2 + 13) (ix 0) (w + 13) (ix 0) (ix 24)) fun σ5 =>
      grd (cpg 0 0 8 8 8) <|
      ltσ (wC σ5 (w2 + 14) (ix 0) (w + 14) (ix 0) (ix 8)) fun σ7 =>
      grd (cpg 0 0 8 8 8) <|
      ltσ (wC σ7 (w2 + 15) (ix 0) (w + 15) (ix 0) (ix 8)) fun σ9 =>
      grd (cpg 0 0 8 8 8) <|
      ltσ (wC σ9 (w2 + 16) (ix 0) (w + 16) (ix 0) (ix 8)) fun σ11 =>
      grd (cpg 0 0 8 8 8 && bzs (σ11.1 (w2 + 17)) (ix 0) (ix 8)) <|
      ltσ (wC σ11 (w2 + 17) (ix 0) (w + 17) (ix 0) (ix 8)) fun σ13 =>
      ltσ (wI σ13 w 11 (σ13.1 w2 11)) fun σ15 =>
      grd (cpg 0 0 8 8 8) <|
      ltσ (wC σ15 (w2 + 18) (ix 0) (w + 18) (ix 0) (ix 8)) fun σ17 =>
      grd (cpg 0 0 8 8 8) <|
      ltσ (wC σ17 (w2 + 19) (ix 0) (w + 19) (ix 0) (ix 8)) fun σ19 =>
      ltσ (wI σ19 w 14 (σ19.1 w2 14)) fun σ21 =>
      some σ21
    ) else (
      grd (inb v2 4 && true) <|
      ltT (σ.2.2 (w2 + 12) (ix v2)) fun r23 =>
      tsel r23 (
        grd (inb v2 4 && true) <|
        ltσ (wQ σ (w + 12) (ix v2) none) fun σ26 =>
        (f_X10_copyFrom_35 w w2 fu) (v2 + 1) σ26
      ) (fun k25 =>
        grd (inb v2 4 && true) <|
        ltσ (wQ σ (w + 12) (ix v2) (some k25)) fun σ28 =>
        (f_X10_copyFrom_35 w w2 fu) (v2 + 1) σ28
      )
    )
set_option maxRecDepth 100000 in
set_option maxHeartbeats 4000000 in
theorem ok_X10_copyFrom_35 {κ : Kd} {w : Nat} {w2 : Nat}   : ∀ (fu : Nat) (v2 : Int32) (σ : Sg) (q : Sg), f_X10_copyFrom_35 w w2 fu v2 σ = some q → AW κ pX10_copyFrom 3 (none, q) 35 [some (aR 10 0 w), some (aR 10 0 w2), some (aI v2)] [] σ := by
  intro fu
  induction fu with
  | zero =>
    intro v2 σ q h
    unfold f_X10_copyFrom_35 at h
    cases h
  | succ fu ih =>
    intro v2 σ q h
    unfold f_X10_copyFrom_35 at h
    refine aw_seq [(.iload_n 2, 1, ax0), (.iconst 4, 1, (axI 4))] (pc' := 37) (L' := [some (aR 10 0 w), some (aR 10 0 w2), some (aI v2)]) (stk' := [aI 4, aI v2]) (σ' := σ) (g := []) (by decide +kernel) rfl rfl ?_
    refine aw_icmp_ge (off := 21) (tgt := 58) (by decide +kernel) (by decide) (fun c1 => ?_) (fun c1 => ?_)
    · rw [if_pos c1] at h
      obtain ⟨σ1, e2, h⟩ := ltσ_some h
      refine aw_seq [(.aload_n 0, 1, ax0), (.aload_n 1, 1, ax0), (.getfield 75, 3, (axF 10 4 (0, 0, 0, none))), (.putfield 75, 3, (axF 10 4 (0, 0, 0, none)))] (pc' := 66) (L' := [some (aR 10 0 w), some (aR 10 0 w2), some (aI v2)]) (stk' := []) (σ' := σ1) (g := []) (by decide +kernel) (by rw [e2]; rfl) rfl ?_
      obtain ⟨σ3, e4, h⟩ := ltσ_some h
      refine aw_seq [(.aload_n 0, 1, ax0), (.aload_n 1, 1, ax0), (.getfield 38, 3, (axF 10 5 (0, 0, 0, none))), (.putfield 38, 3, (axF 10 5 (0, 0, 0, none)))] (pc' := 74) (L' := [some (aR 10 0 w), some (aR 10 0 w2), some (aI v2)]) (stk' := []) (σ' := σ3) (g := []) (by decide +kernel) (by rw [e4]; rfl) rfl ?_
      refine aw_seq [(.aload_n 1, 1, ax0), (.getfield 42, 3, (axF 10 6 (2, 13, 13, some 24))), (.iconst 0, 1, (axI 0)), (.aload_n 0, 1, ax0), (.getfield 42, 3, (axF 10 6 (2, 13, 13, some 24))), (.iconst 0, 1, (axI 0)), (.bipush 24, 2, (axI 24))] (pc' := 86) (L' := [some (aR 10 0 w), some (aR 10 0 w2), some (aI v2)]) (stk' := [aI 24, aI 0, aR 13 24 (w + 13), aI 0, aR 13 24 (w2 + 13)]) (σ' := σ3) (g := []) (by decide +kernel) rfl rfl ?_
      obtain ⟨hg, h⟩ := grd_some h
      obtain ⟨σ5, e6, h⟩ := ltσ_some h
      refine aw_copyI (idx := 78) (by decide) (Nat.le_of_ble_eq_true rfl) jw_copy ml_RX10_78 (by decide +kernel) hg ?_
      rw [← e6]
      refine aw_seq [(.aload_n 1, 1, ax0), (.getfield 46, 3, (axF 10 7 (2, 14, 13, some 8))), (.iconst 0, 1, (axI 0)), (.aload_n 0, 1, ax0), (.getfield 46, 3, (axF 10 7 (2, 14, 13, some 8))), (.iconst 0, 1, (axI 0)), (.bipush 8, 2, (axI 8))] (pc' := 101) (L' := [some (aR 10 0 w), some (aR 10 0 w2), some (aI v2)]) (stk' := [aI 8, aI 0, aR 13 8 (w + 14), aI 0, aR 13 8 (w2 + 14)]) (σ' := σ5) (g := []) (by decide +kernel) rfl rfl ?_
      obtain ⟨hg, h⟩ := grd_some h
      obtain ⟨σ7, e8, h⟩ := ltσ_some h
      refine aw_copyI (idx := 78) (by decide) (Nat.le_of_ble_eq_true rfl) jw_copy ml_RX10_78 (by decide +kernel) hg ?_
      rw [← e8]
      refine aw_seq [(.aload_n 1, 1, ax0), (.getfield 49, 3, (axF 10 8 (2, 15, 13, some 8))), (.iconst 0, 1, (axI 0)), (.aload_n 0, 1, ax0), (.getfield 49, 3, (axF 10 8 (2, 15, 13, some 8))), (.iconst 0, 1, (axI 0)), (.bipush 8, 2, (axI 8))] (pc' := 116) (L' := [some (aR 10 0 w), some (aR 10 0 w2), some (aI v2)]) (stk' := [aI 8, aI 0, aR 13 8 (w + 15), aI 0, aR 13 8 (w2 + 15)]) (σ' := σ7) (g := []) (by decide +kernel) rfl rfl ?_
      obtain ⟨hg, h⟩ := grd_some h
      obtain ⟨σ9, e10, h⟩ := ltσ_some h
      refine aw_copyI (idx := 78) (by decide) (Nat.le_of_ble_eq_true rfl) jw_copy ml_RX10_78 (by decide +kernel) hg ?_
      rw [← e10]
      refine aw_seq [(.aload_n 1, 1, ax0), (.getfield 52, 3, (axF 10 9 (2, 16, 13, some 8))), (.iconst 0, 1, (axI 0)), (.aload_n 0, 1, ax0), (.getfield 52, 3, (axF 10 9 (2, 16, 13, some 8))), (.iconst 0, 1, (axI 0)), (.bipush 8, 2, (axI 8))] (pc' := 131) (L' := [some (aR 10 0 w), some (aR 10 0 w2), some (aI v2)]) (stk' := [aI 8, aI 0, aR 13 8 (w + 16), aI 0, aR 13 8 (w2 + 16)]) (σ' := σ9) (g := []) (by decide +kernel) rfl rfl ?_
      obtain ⟨hg, h⟩ := grd_some h
      obtain ⟨σ11, e12, h⟩ := ltσ_some h
      refine aw_copyI (idx := 78) (by decide) (Nat.le_of_ble_eq_true rfl) jw_copy ml_RX10_78 (by decide +kernel) hg ?_
      rw [← e12]
      refine aw_seq [(.aload_n 1, 1, ax0), (.getfield 55, 3, (axF 10 10 (2, 17, 15, some 8))), (.iconst 0, 1, (axI 0)), (.aload_n 0, 1, ax0), (.getfield 55, 3, (axF 10 10 (2, 17, 15, some 8))), (.iconst 0, 1, (axI 0)), (.bipush 8, 2, (axI 8))] (pc' := 146) (L' := [some (aR 10 0 w), some (aR 10 0 w2), some (aI v2)]) (stk' := [aI 8, aI 0, aR 15 8 (w + 17), aI 0, aR 15 8 (w2 + 17)]) (σ' := σ11) (g := []) (by decide +kernel) rfl rfl ?_
      obtain ⟨hg, h⟩ := grd_some h
      obtain ⟨σ13, e14, h⟩ := ltσ_some h
      refine aw_copyZ (idx := 78) (by decide) (Nat.le_of_ble_eq_true rfl) jw_copy ml_RX10_78 (by decide +kernel) hg ?_
      rw [← e14]
      obtain ⟨σ15, e16, h⟩ := ltσ_some h
      refine aw_seq [(.aload_n 0, 1, ax0), (.aload_n 1, 1, ax0), (.getfield 84, 3, (axF 10 11 (0, 0, 0, none))), (.putfield 84, 3, (axF 10 11 (0, 0, 0, none)))] (pc' := 157) (L' := [some (aR 10 0 w), some (aR 10 0 w2), some (aI v2)]) (stk' := []) (σ' := σ15) (g := []) (by decide +kernel) (by rw [e16]; rfl) rfl ?_
      refine aw_seq [(.aload_n 1, 1, ax0), (.getfield 59, 3, (axF 10 12 (2, 18, 13, some 8))), (.iconst 0, 1, (axI 0)), (.aload_n 0, 1, ax0), (.getfield 59, 3, (axF 10 12 (2, 18, 13, some 8))), (.iconst 0, 1, (axI 0)), (.bipush 8, 2, (axI 8))] (pc' := 169) (L' := [some (aR 10 0 w), some (aR 10 0 w2), some (aI v2)]) (stk' := [aI 8, aI 0, aR 13 8 (w + 18), aI 0, aR 13 8 (w2 + 18)]) (σ' := σ15) (g := []) (by decide +kernel) rfl rfl ?_
      obtain ⟨hg, h⟩ := grd_some h
      obtain ⟨σ17, e18, h⟩ := ltσ_some h
      refine aw_copyI (idx := 78) (by decide) (Nat.le_of_ble_eq_true rfl) jw_copy ml_RX10_78 (by decide +kernel) hg ?_
      rw [← e18]
      refine aw_seq [(.aload_n 1, 1, ax0), (.getfield 62, 3, (axF 10 13 (2, 19, 13, some 8))), (.iconst 0, 1, (axI 0)), (.aload_n 0, 1, ax0), (.getfield 62, 3, (axF 10 13 (2, 19, 13, some 8))), (.iconst 0, 1, (axI 0)), (.bipush 8, 2, (axI 8))] (pc' := 184) (L' := [some (aR 10 0 w), some (aR 10 0 w2), some (aI v2)]) (stk' := [aI 8, aI 0, aR 13 8 (w + 19), aI 0, aR 13 8 (w2 + 19)]) (σ' := σ17) (g := []) (by decide +kernel) rfl rfl ?_
      obtain ⟨hg, h⟩ := grd_some h
      obtain ⟨σ19, e20, h⟩ := ltσ_some h
      refine aw_copyI (idx := 78) (by decide) (Nat.le_of_ble_eq_true rfl) jw_copy ml_RX10_78 (by decide +kernel) hg ?_
      rw [← e20]
      obtain ⟨σ21, e22, h⟩ := ltσ_some h
      refine aw_seq [(.aload_n 0, 1, ax0), (.aload_n 1, 1, ax0), (.getfield 87, 3, (axF 10 14 (0, 0, 0, none))), (.putfield 87, 3, (axF 10 14 (0, 0, 0, none)))] (pc' := 195) (L' := [some (aR 10 0 w), some (aR 10 0 w2), some (aI v2)]) (stk' := []) (σ' := σ21) (g := []) (by decide +kernel) (by rw [e22]; rfl) rfl ?_
      cases h
      exact aw_vret rfl (by decide +kernel)
    · rw [if_neg c1] at h
      obtain ⟨hg, h⟩ := grd_some h
      obtain ⟨r23, e24, h⟩ := ltT_some h
      refine aw_seq [(.aload_n 0, 1, ax0), (.getfield 34, 3, (axF 10 3 (2, 12, 16, some 4))), (.iload_n 2, 1, ax0), (.aload_n 1, 1, ax0), (.getfield 34, 3, (axF 10 3 (2, 12, 16, some 4))), (.iload_n 2, 1, ax0), (.aaload, 1, ax0)] (pc' := 51) (L' := [some (aR 10 0 w), some (aR 10 0 w2), some (aI v2)]) (stk' := [aT r23, aI v2, aR 16 4 (w + 12)]) (σ' := σ) (g := [inb v2 4]) (by decide +kernel) (by rw [e24]; rfl) hg ?_
      rcases tsel_some h with ⟨e1, h2⟩ | ⟨k25, e1, h2⟩
      · replace h := h2
        clear h2; subst e1
        obtain ⟨hg, h⟩ := grd_some h
        obtain ⟨σ26, e27, h⟩ := ltσ_some h
        refine aw_seq [(.aastore, 1, ax0)] (pc' := 52) (L' := [some (aR 10 0 w), some (aR 10 0 w2), some (aI v2)]) (stk' := []) (σ' := σ26) (g := [inb v2 4]) (by decide +kernel) (by rw [e27]; rfl) hg ?_
        refine aw_seq [(.iinc 2 1, 3, (axI 1))] (pc' := 55) (L' := [some (aR 10 0 w), some (aR 10 0 w2), some (aI (v2 + 1))]) (stk' := []) (σ' := σ26) (g := []) (by decide +kernel) rfl rfl ?_
        refine aw_goto (off := (-20)) (tgt := 35) (by decide +kernel) (by decide) ?_
        refine aw_forget (L' := [some (aR 10 0 w), some (aR 10 0 w2), some (aI (v2 + 1))]) (lsub_s (lsub_s (lsub_s (lsub_0)))) ?_
        exact ih (v2 + 1) σ26 _ h
      · replace h := h2
        clear h2; subst e1
        obtain ⟨hg, h⟩ := grd_some h
        obtain ⟨σ28, e29, h⟩ := ltσ_some h
        refine aw_seq [(.aastore, 1, ax0)] (pc' := 52) (L' := [some (aR 10 0 w), some (aR 10 0 w2), some (aI v2)]) (stk' := []) (σ' := σ28) (g := [inb v2 4]) (by decide +kernel) (by rw [e29]; rfl) hg ?_
        refine aw_seq [(.iinc 2 1, 3, (axI 1))] (pc' := 55) (L' := [some (aR 10 0 w), some (aR 10 0 w2), some (aI (v2 + 1))]) (stk' := []) (σ' := σ28) (g := []) (by decide +kernel) rfl rfl ?_
        refine aw_goto (off := (-20)) (tgt := 35) (by decide +kernel) (by decide) ?_
        refine aw_forget (L' := [some (aR 10 0 w), some (aR 10 0 w2), some (aI (v2 + 1))]) (lsub_s (lsub_s (lsub_s (lsub_0)))) ?_
        exact ih (v2 + 1) σ28 _ h
def f_X10_copyFrom (w : Nat) (w2 : Nat) (σ : Sg) : Option Sg :=
  bndV (f_X8_copyFrom (w + 1) (w2 + 1) σ) fun σ31 =>
  bndV (f_X5_copyFrom (w + 7) (w2 + 7) σ31) fun σ33 =>
  bndV (f_X4_copyFrom (w + 10) (w2 + 10) σ33) fun σ35 =>
  f_X10_copyFrom_35 w w2 FU 0 σ35
set_option maxRecDepth 100000 in
set_option maxHeartbeats 4000000 in
theorem ok_X10_copyFrom {κ : Kd} {w : Nat} {w2 : Nat} {σ : Sg} {q : Sg} (h : f_X10_copyFrom w w2 σ = some q) : AMet κ pX10_copyFrom 3 [aR 10 0 w, aR 10 0 w2] σ (none, q) := by
  unfold f_X10_copyFrom at h
  refine amet_of okp_X10_copyFrom [(false, aR 10 0 w), (false, aR 10 0 w2)] (List.forall_mem_cons.mpr ⟨rfl, List.forall_mem_cons.mpr ⟨rfl, (fun _ hn => absurd hn List.not_mem_nil)⟩⟩) 1 rfl ?_
  show AW κ pX10_copyFrom 3 (none, q) 0 [some (aR 10 0 w), some (aR 10 0 w2), none] [] σ
  refine aw_seq [(.aload_n 0, 1, ax0), (.getfield 12, 3, (axF 10 0 (2, 1, 8, some 0))), (.aload_n 1, 1, ax0), (.getfield 12, 3, (axF 10 0 (2, 1, 8, some 0)))] (pc' := 8) (L' := [some (aR 10 0 w), some (aR 10 0 w2), none]) (stk' := [aR 8 0 (w2 + 1), aR 8 0 (w + 1)]) (σ' := σ) (g := []) (by decide +kernel) rfl rfl ?_
  obtain ⟨σ31, h30, h⟩ := bndV_some h
  refine aw_cV (P' := pX8_copyFrom) (idx := 65) (d' := 2) (c := 8) (n := 0) (k := (w + 1)) [aR 8 0 (w2 + 1)] [] (ov := none) (stk2 := []) okp_X8_copyFrom (by decide +kernel) ml_RX10_65 vok_X8_copyFrom (by decide) rfl nar_X8_copyFrom (by decide) rfl (Nat.le_of_ble_eq_true rfl) (ok_X8_copyFrom h30) rfl ?_
  refine aw_seq [(.aload_n 0, 1, ax0), (.getfield 21, 3, (axF 10 1 (2, 7, 5, some 0))), (.aload_n 1, 1, ax0), (.getfield 21, 3, (axF 10 1 (2, 7, 5, some 0)))] (pc' := 19) (L' := [some (aR 10 0 w), some (aR 10 0 w2), none]) (stk' := [aR 5 0 (w2 + 7), aR 5 0 (w + 7)]) (σ' := σ31) (g := []) (by decide +kernel) rfl rfl ?_
  obtain ⟨σ33, h32, h⟩ := bndV_some h
  refine aw_cV (P' := pX5_copyFrom) (idx := 69) (d' := 2) (c := 5) (n := 0) (k := (w + 7)) [aR 5 0 (w2 + 7)] [] (ov := none) (stk2 := []) okp_X5_copyFrom (by decide +kernel) ml_RX10_69 vok_X5_copyFrom (by decide) rfl nar_X5_copyFrom (by decide) rfl (Nat.le_of_ble_eq_true rfl) (ok_X5_copyFrom h32) rfl ?_
  refine aw_seq [(.aload_n 0, 1, ax0), (.getfield 28, 3, (axF 10 2 (2, 10, 4, some 0))), (.aload_n 1, 1, ax0), (.getfield 28, 3, (axF 10 2 (2, 10, 4, some 0)))] (pc' := 30) (L' := [some (aR 10 0 w), some (aR 10 0 w2), none]) (stk' := [aR 4 0 (w2 + 10), aR 4 0 (w + 10)]) (σ' := σ33) (g := []) (by decide +kernel) rfl rfl ?_
  obtain ⟨σ35, h34, h⟩ := bndV_some h
  refine aw_cV (P' := pX4_copyFrom) (idx := 72) (d' := 2) (c := 4) (n := 0) (k := (w + 10)) [aR 4 0 (w2 + 10)] [] (ov := none) (stk2 := []) okp_X4_copyFrom (by decide +kernel) ml_RX10_72 vok_X4_copyFrom (by decide) rfl nar_X4_copyFrom (by decide) rfl (Nat.le_of_ble_eq_true rfl) (ok_X4_copyFrom h34) rfl ?_
  refine aw_seq [(.iconst 0, 1, (axI 0)), (.istore_n 2, 1, ax0)] (pc' := 35) (L' := [some (aR 10 0 w), some (aR 10 0 w2), some (aI 0)]) (stk' := []) (σ' := σ35) (g := []) (by decide +kernel) rfl rfl ?_
  refine aw_forget (L' := [some (aR 10 0 w), some (aR 10 0 w2), some (aI 0)]) (lsub_s (lsub_s (lsub_s (lsub_0)))) ?_
  exact ok_X10_copyFrom_35 FU 0 σ35 _ h
def f_X11_image  (σ : Sg) : Option (Int32 × Sg) :=
  bndV (f_X10_copyFrom 21 1 σ) fun σ2 =>
  some ((σ2.1 2 5), σ2)
set_option maxRecDepth 100000 in
set_option maxHeartbeats 4000000 in
theorem ok_X11_image {κ : Kd}  {σ : Sg} {q : (Int32 × Sg)} (h : f_X11_image σ = some q) : AMet κ pX11_image 4 [aR 11 0 0] σ (some (aI q.1), q.2) := by
  unfold f_X11_image at h
  refine amet_of okp_X11_image [(false, aR 11 0 0)] (List.forall_mem_cons.mpr ⟨rfl, (fun _ hn => absurd hn List.not_mem_nil)⟩) 0 rfl ?_
  show AW κ pX11_image 4 (some (aI q.1), q.2) 0 [some (aR 11 0 0)] [] σ
  refine aw_seq [(.aload_n 0, 1, ax0), (.getfield 16, 3, (axF 11 1 (2, 21, 10, some 0))), (.aload_n 0, 1, ax0), (.getfield 10, 3, (axF 11 0 (2, 1, 10, some 0)))] (pc' := 8) (L' := [some (aR 11 0 0)]) (stk' := [aR 10 0 1, aR 10 0 21]) (σ' := σ) (g := []) (by decide +kernel) rfl rfl ?_
  obtain ⟨σ2, h1, h⟩ := bndV_some h
  refine aw_cV (P' := pX10_copyFrom) (idx := 345) (d' := 3) (c := 10) (n := 0) (k := 21) [aR 10 0 1] [] (ov := none) (stk2 := []) okp_X10_copyFrom (by decide +kernel) ml_RX11_345 vok_X10_copyFrom (by decide) rfl nar_X10_copyFrom (by decide) rfl (Nat.le_of_ble_eq_true rfl) (ok_X10_copyFrom h1) rfl ?_
  refine aw_seq [(.aload_n 0, 1, ax0), (.getfield 10, 3, (axF 11 0 (2, 1, 10, some 0))), (.getfield 68, 3, (axF 10 0 (2, 1, 8, some 0))), (.getfield 151, 3, (axF 8 5 (0, 0, 0, none)))] (pc' := 21) (L' := [some (aR 11 0 0)]) (stk' := [aI (σ2.1 2 5)]) (σ' := σ2) (g := []) (by decide +kernel) rfl rfl ?_
  cases h
  exact aw_iret rfl (by decide +kernel)
def f_X11_back  (σ : Sg) : Option (Int32 × Sg) :=
  bndV (f_X10_copyFrom 1 21 σ) fun σ2 =>
  some ((σ2.1 2 5), σ2)
set_option maxRecDepth 100000 in
set_option maxHeartbeats 4000000 in
theorem ok_X11_back {κ : Kd}  {σ : Sg} {q : (Int32 × Sg)} (h : f_X11_back σ = some q) : AMet κ pX11_back 4 [aR 11 0 0] σ (some (aI q.1), q.2) := by
  unfold f_X11_back at h
  refine amet_of okp_X11_back [(false, aR 11 0 0)] (List.forall_mem_cons.mpr ⟨rfl, (fun _ hn => absurd hn List.not_mem_nil)⟩) 0 rfl ?_
  show AW κ pX11_back 4 (some (aI q.1), q.2) 0 [some (aR 11 0 0)] [] σ
  refine aw_seq [(.aload_n 0, 1, ax0), (.getfield 10, 3, (axF 11 0 (2, 1, 10, some 0))), (.aload_n 0, 1, ax0), (.getfield 16, 3, (axF 11 1 (2, 21, 10, some 0)))] (pc' := 8) (L' := [some (aR 11 0 0)]) (stk' := [aR 10 0 21, aR 10 0 1]) (σ' := σ) (g := []) (by decide +kernel) rfl rfl ?_
  obtain ⟨σ2, h1, h⟩ := bndV_some h
  refine aw_cV (P' := pX10_copyFrom) (idx := 345) (d' := 3) (c := 10) (n := 0) (k := 1) [aR 10 0 21] [] (ov := none) (stk2 := []) okp_X10_copyFrom (by decide +kernel) ml_RX11_345 vok_X10_copyFrom (by decide) rfl nar_X10_copyFrom (by decide) rfl (Nat.le_of_ble_eq_true rfl) (ok_X10_copyFrom h1) rfl ?_
  refine aw_seq [(.aload_n 0, 1, ax0), (.getfield 10, 3, (axF 11 0 (2, 1, 10, some 0))), (.getfield 68, 3, (axF 10 0 (2, 1, 8, some 0))), (.getfield 151, 3, (axF 8 5 (0, 0, 0, none)))] (pc' := 21) (L' := [some (aR 11 0 0)]) (stk' := [aI (σ2.1 2 5)]) (σ' := σ2) (g := []) (by decide +kernel) rfl rfl ?_
  cases h
  exact aw_iret rfl (by decide +kernel)
def f_X11_about (v1 : Int32) (σ : Sg) : Option (Int32 × Sg) :=
  if v1 = 0 then (
    some ((σ.1 2 0), σ)
  ) else (
  if v1 = 1 then (
    some ((σ.1 1 4), σ)
  ) else (
  if v1 = 2 then (
    some ((σ.1 1 5), σ)
  ) else (
  if v1 = 3 then (
    some ((σ.1 11 2), σ)
  ) else (
  if v1 = 4 then (
    some ((σ.1 1 11), σ)
  ) else (
  if v1 = 5 then (
    some ((σ.1 1 14), σ)
  ) else (
  if v1 = 6 then (
    some ((σ.1 0 10), σ)
  ) else (
    some ((-2), σ)
  )))))))
set_option maxRecDepth 100000 in
set_option maxHeartbeats 4000000 in
theorem ok_X11_about {κ : Kd} {v1 : Int32} {σ : Sg} {q : (Int32 × Sg)} (h : f_X11_about v1 σ = some q) : AMet κ pX11_about 1 [aR 11 0 0, aI v1] σ (some (aI q.1), q.2) := by
  unfold f_X11_about at h
  refine amet_of okp_X11_about [(false, aR 11 0 0), (false, aI v1)] (List.forall_mem_cons.mpr ⟨rfl, List.forall_mem_cons.mpr ⟨rfl, (fun _ hn => absurd hn List.not_mem_nil)⟩⟩) 0 rfl ?_
  show AW κ pX11_about 1 (some (aI q.1), q.2) 0 [some (aR 11 0 0), some (aI v1)] [] σ
  refine aw_seq [(.iload_n 1, 1, ax0)] (pc' := 1) (L' := [some (aR 11 0 0), some (aI v1)]) (stk' := [aI v1]) (σ' := σ) (g := []) (by decide +kernel) rfl rfl ?_
  refine aw_table (dflt := 102) (lo := 0) (hi := 6) (offs := #[43, 54, 62, 70, 81, 89, 97]) (len := 43) (dt := 103) (by decide +kernel) [(0, 44), (1, 55), (2, 63), (3, 71), (4, 82), (5, 90), (6, 98)] (by decide +kernel) ?_
  refine awsw_cons (fun c1 => ?_) (fun c1 => ?_)
  · rw [if_pos c1] at h
    refine aw_seq [(.aload_n 0, 1, ax0), (.getfield 10, 3, (axF 11 0 (2, 1, 10, some 0))), (.getfield 68, 3, (axF 10 0 (2, 1, 8, some 0))), (.getfield 312, 3, (axF 8 0 (0, 0, 0, none)))] (pc' := 54) (L' := [some (aR 11 0 0), some (aI v1)]) (stk' := [aI (σ.1 2 0)]) (σ' := σ) (g := []) (by decide +kernel) rfl rfl ?_
    cases h
    exact aw_iret rfl (by decide +kernel)
  rw [if_neg c1] at h
  refine awsw_cons (fun c1 => ?_) (fun c1 => ?_)
  · rw [if_pos c1] at h
    refine aw_seq [(.aload_n 0, 1, ax0), (.getfield 10, 3, (axF 11 0 (2, 1, 10, some 0))), (.getfield 101, 3, (axF 10 4 (0, 0, 0, none)))] (pc' := 62) (L' := [some (aR 11 0 0), some (aI v1)]) (stk' := [aI (σ.1 1 4)]) (σ' := σ) (g := []) (by decide +kernel) rfl rfl ?_
    cases h
    exact aw_iret rfl (by decide +kernel)
  rw [if_neg c1] at h
  refine awsw_cons (fun c1 => ?_) (fun c1 => ?_)
  · rw [if_pos c1] at h
    refine aw_seq [(.aload_n 0, 1, ax0), (.getfield 10, 3, (axF 11 0 (2, 1, 10, some 0))), (.getfield 122, 3, (axF 10 5 (0, 0, 0, none)))] (pc' := 70) (L' := [some (aR 11 0 0), some (aI v1)]) (stk' := [aI (σ.1 1 5)]) (σ' := σ) (g := []) (by decide +kernel) rfl rfl ?_
    cases h
    exact aw_iret rfl (by decide +kernel)
  rw [if_neg c1] at h
  refine awsw_cons (fun c1 => ?_) (fun c1 => ?_)
  · rw [if_pos c1] at h
    refine aw_seq [(.aload_n 0, 1, ax0), (.getfield 10, 3, (axF 11 0 (2, 1, 10, some 0))), (.getfield 133, 3, (axF 10 2 (2, 10, 4, some 0))), (.getfield 191, 3, (axF 4 2 (0, 0, 0, none)))] (pc' := 81) (L' := [some (aR 11 0 0), some (aI v1)]) (stk' := [aI (σ.1 11 2)]) (σ' := σ) (g := []) (by decide +kernel) rfl rfl ?_
    cases h
    exact aw_iret rfl (by decide +kernel)
  rw [if_neg c1] at h
  refine awsw_cons (fun c1 => ?_) (fun c1 => ?_)
  · rw [if_pos c1] at h
    refine aw_seq [(.aload_n 0, 1, ax0), (.getfield 10, 3, (axF 11 0 (2, 1, 10, some 0))), (.getfield 295, 3, (axF 10 11 (0, 0, 0, none)))] (pc' := 89) (L' := [some (aR 11 0 0), some (aI v1)]) (stk' := [aI (σ.1 1 11)]) (σ' := σ) (g := []) (by decide +kernel) rfl rfl ?_
    cases h
    exact aw_iret rfl (by decide +kernel)
  rw [if_neg c1] at h
  refine awsw_cons (fun c1 => ?_) (fun c1 => ?_)
  · rw [if_pos c1] at h
    refine aw_seq [(.aload_n 0, 1, ax0), (.getfield 10, 3, (axF 11 0 (2, 1, 10, some 0))), (.getfield 326, 3, (axF 10 14 (0, 0, 0, none)))] (pc' := 97) (L' := [some (aR 11 0 0), some (aI v1)]) (stk' := [aI (σ.1 1 14)]) (σ' := σ) (g := []) (by decide +kernel) rfl rfl ?_
    cases h
    exact aw_iret rfl (by decide +kernel)
  rw [if_neg c1] at h
  refine awsw_cons (fun c1 => ?_) (fun c1 => ?_)
  · rw [if_pos c1] at h
    refine aw_seq [(.aload_n 0, 1, ax0), (.getfield 93, 3, (axF 11 10 (0, 0, 0, none)))] (pc' := 102) (L' := [some (aR 11 0 0), some (aI v1)]) (stk' := [aI (σ.1 0 10)]) (σ' := σ) (g := []) (by decide +kernel) rfl rfl ?_
    cases h
    exact aw_iret rfl (by decide +kernel)
  rw [if_neg c1] at h
  refine awsw_nil ?_
  refine aw_seq [(.bipush (-2), 2, (axI (-2)))] (pc' := 105) (L' := [some (aR 11 0 0), some (aI v1)]) (stk' := [aI (-2)]) (σ' := σ) (g := []) (by decide +kernel) rfl rfl ?_
  cases h
  exact aw_iret rfl (by decide +kernel)
def f_X3_begin_32   : Nat → Int32 → Sg → Option Sg
  | 0, _, _ => none
  | fu + 1, v1, σ =>
    if 3 ≤ v1 then (
      some σ
    ) else (
      grd (inb v1 3 && true) <|
      ltσ (wI σ 57 (ix v1) (-1)) fun σ1 =>
      grd (inb v1 3 && true) <|
      ltσ (wI σ1 58 (ix v1) (-1)) fun σ3 =>
      (f_X3_begin_32 fu) (v1 + 1) σ3
    )
set_option maxRecDepth 100000 in
set_option maxHeartbeats 4000000 in
theorem ok_X3_begin_32 {κ : Kd}    : ∀ (fu : Nat) (v1 : Int32) (σ : Sg) (q : Sg), f_X3_begin_32 fu v1 σ = some q → AW κ pX3_begin 1 (none, q) 32 [some (aR 3 0 49), some (aI v1)] [] σ := by
  intro fu
  induction fu with
  | zero =>
    intro v1 σ q h
    unfold f_X3_begin_32 at h
    cases h
  | succ fu ih =>
    intro v1 σ q h
    unfold f_X3_begin_32 at h
    refine aw_seq [(.iload_n 1, 1, ax0), (.iconst 3, 1, (axI 3))] (pc' := 34) (L' := [some (aR 3 0 49), some (aI v1)]) (stk' := [aI 3, aI v1]) (σ' := σ) (g := []) (by decide +kernel) rfl rfl ?_
    refine aw_icmp_ge (off := 23) (tgt := 57) (by decide +kernel) (by decide) (fun c1 => ?_) (fun c1 => ?_)
    · rw [if_pos c1] at h
      cases h
      exact aw_vret rfl (by decide +kernel)
    · rw [if_neg c1] at h
      obtain ⟨hg, h⟩ := grd_some h
      obtain ⟨σ1, e2, h⟩ := ltσ_some h
      refine aw_seq [(.aload_n 0, 1, ax0), (.getfield 30, 3, (axF 3 10 (2, 8, 13, some 3))), (.iload_n 1, 1, ax0), (.iconst (-1), 1, (axI (-1))), (.iastore, 1, ax0)] (pc' := 44) (L' := [some (aR 3 0 49), some (aI v1)]) (stk' := []) (σ' := σ1) (g := [inb v1 3]) (by decide +kernel) (by rw [e2]; rfl) hg ?_
      obtain ⟨hg, h⟩ := grd_some h
      obtain ⟨σ3, e4, h⟩ := ltσ_some h
      refine aw_seq [(.aload_n 0, 1, ax0), (.getfield 33, 3, (axF 3 11 (2, 9, 13, some 3))), (.iload_n 1, 1, ax0), (.iconst (-1), 1, (axI (-1))), (.iastore, 1, ax0)] (pc' := 51) (L' := [some (aR 3 0 49), some (aI v1)]) (stk' := []) (σ' := σ3) (g := [inb v1 3]) (by decide +kernel) (by rw [e4]; rfl) hg ?_
      refine aw_seq [(.iinc 1 1, 3, (axI 1))] (pc' := 54) (L' := [some (aR 3 0 49), some (aI (v1 + 1))]) (stk' := []) (σ' := σ3) (g := []) (by decide +kernel) rfl rfl ?_
      refine aw_goto (off := (-22)) (tgt := 32) (by decide +kernel) (by decide) ?_
      refine aw_forget (L' := [some (aR 3 0 49), some (aI (v1 + 1))]) (lsub_s (lsub_s (lsub_0))) ?_
      exact ih (v1 + 1) σ3 _ h
def f_X3_begin  (σ : Sg) : Option Sg :=
  grd (bz 1 && true) <|
  ltσ (wI σ 49 0 1) fun σ5 =>
  ltσ (wI σ5 49 1 0) fun σ7 =>
  ltσ (wI σ7 49 2 (-1)) fun σ9 =>
  ltσ (wI σ9 49 4 0) fun σ11 =>
  ltσ (wI σ11 49 6 0) fun σ13 =>
  ltσ (wI σ13 49 9 0) fun σ15 =>
  f_X3_begin_32 FU 0 σ15
set_option maxRecDepth 100000 in
set_option maxHeartbeats 4000000 in
theorem ok_X3_begin {κ : Kd}  {σ : Sg} {q : Sg} (h : f_X3_begin σ = some q) : AMet κ pX3_begin 1 [aR 3 0 49] σ (none, q) := by
  unfold f_X3_begin at h
  refine amet_of okp_X3_begin [(false, aR 3 0 49)] (List.forall_mem_cons.mpr ⟨rfl, (fun _ hn => absurd hn List.not_mem_nil)⟩) 1 rfl ?_
  show AW κ pX3_begin 1 (none, q) 0 [some (aR 3 0 49), none] [] σ
  obtain ⟨hg, h⟩ := grd_some h
  obtain ⟨σ5, e6, h⟩ := ltσ_some h
  refine aw_seq [(.aload_n 0, 1, ax0), (.iconst 1, 1, (axI 1)), (.putfield 77, 3, (axF 3 0 (3, 0, 0, none)))] (pc' := 5) (L' := [some (aR 3 0 49), none]) (stk' := []) (σ' := σ5) (g := [bz 1]) (by decide +kernel) (by rw [e6]; rfl) hg ?_
  obtain ⟨σ7, e8, h⟩ := ltσ_some h
  refine aw_seq [(.aload_n 0, 1, ax0), (.iconst 0, 1, (axI 0)), (.putfield 54, 3, (axF 3 1 (0, 0, 0, none)))] (pc' := 10) (L' := [some (aR 3 0 49), none]) (stk' := []) (σ' := σ7) (g := []) (by decide +kernel) (by rw [e8]; rfl) rfl ?_
  obtain ⟨σ9, e10, h⟩ := ltσ_some h
  refine aw_seq [(.aload_n 0, 1, ax0), (.iconst (-1), 1, (axI (-1))), (.putfield 81, 3, (axF 3 2 (0, 0, 0, none)))] (pc' := 15) (L' := [some (aR 3 0 49), none]) (stk' := []) (σ' := σ9) (g := []) (by decide +kernel) (by rw [e10]; rfl) rfl ?_
  obtain ⟨σ11, e12, h⟩ := ltσ_some h
  refine aw_seq [(.aload_n 0, 1, ax0), (.iconst 0, 1, (axI 0)), (.putfield 43, 3, (axF 3 4 (0, 0, 0, none)))] (pc' := 20) (L' := [some (aR 3 0 49), none]) (stk' := []) (σ' := σ11) (g := []) (by decide +kernel) (by rw [e12]; rfl) rfl ?_
  obtain ⟨σ13, e14, h⟩ := ltσ_some h
  refine aw_seq [(.aload_n 0, 1, ax0), (.iconst 0, 1, (axI 0)), (.putfield 57, 3, (axF 3 6 (0, 0, 0, none)))] (pc' := 25) (L' := [some (aR 3 0 49), none]) (stk' := []) (σ' := σ13) (g := []) (by decide +kernel) (by rw [e14]; rfl) rfl ?_
  obtain ⟨σ15, e16, h⟩ := ltσ_some h
  refine aw_seq [(.aload_n 0, 1, ax0), (.iconst 0, 1, (axI 0)), (.putfield 66, 3, (axF 3 9 (0, 0, 0, none)))] (pc' := 30) (L' := [some (aR 3 0 49), none]) (stk' := []) (σ' := σ15) (g := []) (by decide +kernel) (by rw [e16]; rfl) rfl ?_
  refine aw_seq [(.iconst 0, 1, (axI 0)), (.istore_n 1, 1, ax0)] (pc' := 32) (L' := [some (aR 3 0 49), some (aI 0)]) (stk' := []) (σ' := σ15) (g := []) (by decide +kernel) rfl rfl ?_
  refine aw_forget (L' := [some (aR 3 0 49), some (aI 0)]) (lsub_s (lsub_s (lsub_0))) ?_
  exact ok_X3_begin_32 FU 0 σ15 _ h
def f_X7_last  (σ : Sg) : Option (Int32 × Sg) :=
  some (((σ.1 50 3) - 1), σ)
set_option maxRecDepth 100000 in
set_option maxHeartbeats 4000000 in
theorem ok_X7_last {κ : Kd}  {σ : Sg} {q : (Int32 × Sg)} (h : f_X7_last σ = some q) : AMet κ pX7_last 1 [aR 7 0 50] σ (some (aI q.1), q.2) := by
  unfold f_X7_last at h
  refine amet_of okp_X7_last [(false, aR 7 0 50)] (List.forall_mem_cons.mpr ⟨rfl, (fun _ hn => absurd hn List.not_mem_nil)⟩) 0 rfl ?_
  show AW κ pX7_last 1 (some (aI q.1), q.2) 0 [some (aR 7 0 50)] [] σ
  refine aw_seq [(.aload_n 0, 1, ax0), (.getfield 21, 3, (axF 7 3 (0, 0, 0, none))), (.iconst 1, 1, (axI 1)), (.isub, 1, ax0)] (pc' := 6) (L' := [some (aR 7 0 50)]) (stk' := [aI ((σ.1 50 3) - 1)]) (σ' := σ) (g := []) (by decide +kernel) rfl rfl ?_
  cases h
  exact aw_iret rfl (by decide +kernel)
def f_X7_place_22   (s0 : Int32) (σ : Sg) : Option (Int32 × Sg) :=
  some (s0, σ)
set_option maxRecDepth 100000 in
set_option maxHeartbeats 4000000 in
theorem ok_X7_place_22 {κ : Kd}    : ∀ (s0 : Int32) (σ : Sg) (q : (Int32 × Sg)), f_X7_place_22 s0 σ = some q → AW κ pX7_place 1 (some (aI q.1), q.2) 22 [none, none] [aI s0] σ := by
  intro s0 σ q h
  unfold f_X7_place_22 at h
  cases h
  exact aw_iret rfl (by decide +kernel)
def f_X7_place_21    (σ : Sg) : Option (Int32 × Sg) :=
  f_X7_place_22 (-1) σ
set_option maxRecDepth 100000 in
set_option maxHeartbeats 4000000 in
theorem ok_X7_place_21 {κ : Kd}    : ∀  (σ : Sg) (q : (Int32 × Sg)), f_X7_place_21  σ = some q → AW κ pX7_place 1 (some (aI q.1), q.2) 21 [none, none] [] σ := by
  intro  σ q h
  unfold f_X7_place_21 at h
  refine aw_seq [(.iconst (-1), 1, (axI (-1)))] (pc' := 22) (L' := [none, none]) (stk' := [aI (-1)]) (σ' := σ) (g := []) (by decide +kernel) rfl rfl ?_
  refine aw_forget (L' := [none, none]) (lsub_n (lsub_n (lsub_0))) ?_
  exact ok_X7_place_22 (-1) σ _ h
def f_X7_place (v1 : Int32) (σ : Sg) : Option (Int32 × Sg) :=
  if v1 < 0 then (
    f_X7_place_21 σ
  ) else (
    if (σ.1 50 3) ≤ v1 then (
      f_X7_place_21 σ
    ) else (
      grd (inb v1 301 && true) <|
      f_X7_place_22 (σ.1 53 (ix v1)) σ
    )
  )
set_option maxRecDepth 100000 in
set_option maxHeartbeats 4000000 in
theorem ok_X7_place {κ : Kd} {v1 : Int32} {σ : Sg} {q : (Int32 × Sg)} (h : f_X7_place v1 σ = some q) : AMet κ pX7_place 1 [aR 7 0 50, aI v1] σ (some (aI q.1), q.2) := by
  unfold f_X7_place at h
  refine amet_of okp_X7_place [(false, aR 7 0 50), (false, aI v1)] (List.forall_mem_cons.mpr ⟨rfl, List.forall_mem_cons.mpr ⟨rfl, (fun _ hn => absurd hn List.not_mem_nil)⟩⟩) 0 rfl ?_
  show AW κ pX7_place 1 (some (aI q.1), q.2) 0 [some (aR 7 0 50), some (aI v1)] [] σ
  refine aw_seq [(.iload_n 1, 1, ax0)] (pc' := 1) (L' := [some (aR 7 0 50), some (aI v1)]) (stk' := [aI v1]) (σ' := σ) (g := []) (by decide +kernel) rfl rfl ?_
  refine aw_if_lt (off := 20) (tgt := 21) (by decide +kernel) (by decide) (fun c1 => ?_) (fun c1 => ?_)
  · rw [if_pos c1] at h
    refine aw_forget (L' := [none, none]) (lsub_n (lsub_n (lsub_0))) ?_
    exact ok_X7_place_21 σ _ h
  · rw [if_neg c1] at h
    refine aw_seq [(.iload_n 1, 1, ax0), (.aload_n 0, 1, ax0), (.getfield 21, 3, (axF 7 3 (0, 0, 0, none)))] (pc' := 9) (L' := [some (aR 7 0 50), some (aI v1)]) (stk' := [aI (σ.1 50 3), aI v1]) (σ' := σ) (g := []) (by decide +kernel) rfl rfl ?_
    refine aw_icmp_ge (off := 12) (tgt := 21) (by decide +kernel) (by decide) (fun c1 => ?_) (fun c1 => ?_)
    · rw [if_pos c1] at h
      refine aw_forget (L' := [none, none]) (lsub_n (lsub_n (lsub_0))) ?_
      exact ok_X7_place_21 σ _ h
    · rw [if_neg c1] at h
      obtain ⟨hg, h⟩ := grd_some h
      refine aw_seq [(.aload_n 0, 1, ax0), (.getfield 18, 3, (axF 7 2 (2, 3, 13, some 301))), (.iload_n 1, 1, ax0), (.iaload, 1, ax0)] (pc' := 18) (L' := [some (aR 7 0 50), some (aI v1)]) (stk' := [aI (σ.1 53 (ix v1))]) (σ' := σ) (g := [inb v1 301]) (by decide +kernel) rfl hg ?_
      refine aw_goto (off := 4) (tgt := 22) (by decide +kernel) (by decide) ?_
      refine aw_forget (L' := [none, none]) (lsub_n (lsub_n (lsub_0))) ?_
      exact ok_X7_place_22 (σ.1 53 (ix v1)) σ _ h
def f_X3_fail_27    (σ : Sg) : Option Sg :=
  bnd (f_X7_last σ) fun r3 σ2 =>
  ltσ (wI σ2 49 4 r3) fun σ4 =>
  some σ4
set_option maxRecDepth 100000 in
set_option maxHeartbeats 4000000 in
theorem ok_X3_fail_27 {κ : Kd}    : ∀  (σ : Sg) (q : Sg), f_X3_fail_27  σ = some q → AW κ pX3_fail 2 (none, q) 27 [some (aR 3 0 49), none] [] σ := by
  intro  σ q h
  unfold f_X3_fail_27 at h
  refine aw_seq [(.aload_n 0, 1, ax0), (.aload_n 0, 1, ax0), (.getfield 12, 3, (axF 3 3 (2, 1, 7, some 0)))] (pc' := 32) (L' := [some (aR 3 0 49), none]) (stk' := [aR 7 0 50, aR 3 0 49]) (σ' := σ) (g := []) (by decide +kernel) rfl rfl ?_
  obtain ⟨r3, σ2, h1, h⟩ := bnd_some h
  refine aw_cV (P' := pX7_last) (idx := 86) (d' := 1) (c := 7) (n := 0) (k := 50) [] [aR 3 0 49] (ov := (some (aI r3))) (stk2 := [aI r3, aR 3 0 49]) okp_X7_last (by decide +kernel) ml_RX3_86 vok_X7_last (by decide) rfl nar_X7_last (by decide) rfl (Nat.le_of_ble_eq_true rfl) (ok_X7_last h1) rfl ?_
  obtain ⟨σ4, e5, h⟩ := ltσ_some h
  refine aw_seq [(.putfield 43, 3, (axF 3 4 (0, 0, 0, none)))] (pc' := 38) (L' := [some (aR 3 0 49), none]) (stk' := []) (σ' := σ4) (g := []) (by decide +kernel) (by rw [e5]; rfl) rfl ?_
  cases h
  exact aw_vret rfl (by decide +kernel)
def f_X3_fail (v1 : Int32) (σ : Sg) : Option Sg :=
  if (σ.1 49 1) = 0 then (
    ltσ (wI σ 49 1 v1) fun σ6 =>
    bnd (f_X7_place (σ6.1 49 4) σ6) fun r10 σ9 =>
    ltσ (wI σ9 49 2 r10) fun σ11 =>
    f_X3_fail_27 σ11
  ) else (
    f_X3_fail_27 σ
  )
set_option maxRecDepth 100000 in
set_option maxHeartbeats 4000000 in
theorem ok_X3_fail {κ : Kd} {v1 : Int32} {σ : Sg} {q : Sg} (h : f_X3_fail v1 σ = some q) : AMet κ pX3_fail 2 [aR 3 0 49, aI v1] σ (none, q) := by
  unfold f_X3_fail at h
  refine amet_of okp_X3_fail [(false, aR 3 0 49), (false, aI v1)] (List.forall_mem_cons.mpr ⟨rfl, List.forall_mem_cons.mpr ⟨rfl, (fun _ hn => absurd hn List.not_mem_nil)⟩⟩) 0 rfl ?_
  show AW κ pX3_fail 2 (none, q) 0 [some (aR 3 0 49), some (aI v1)] [] σ
  refine aw_seq [(.aload_n 0, 1, ax0), (.getfield 54, 3, (axF 3 1 (0, 0, 0, none)))] (pc' := 4) (L' := [some (aR 3 0 49), some (aI v1)]) (stk' := [aI (σ.1 49 1)]) (σ' := σ) (g := []) (by decide +kernel) rfl rfl ?_
  refine aw_if_ne (off := 23) (tgt := 27) (by decide +kernel) (by decide) (fun c1 => ?_) (fun c1 => ?_)
  · rw [if_neg c1] at h
    refine aw_forget (L' := [some (aR 3 0 49), none]) (lsub_s (lsub_n (lsub_0))) ?_
    exact ok_X3_fail_27 σ _ h
  · rw [if_pos c1] at h
    obtain ⟨σ6, e7, h⟩ := ltσ_some h
    refine aw_seq [(.aload_n 0, 1, ax0), (.iload_n 1, 1, ax0), (.putfield 54, 3, (axF 3 1 (0, 0, 0, none)))] (pc' := 12) (L' := [some (aR 3 0 49), some (aI v1)]) (stk' := []) (σ' := σ6) (g := []) (by decide +kernel) (by rw [e7]; rfl) rfl ?_
    refine aw_seq [(.aload_n 0, 1, ax0), (.aload_n 0, 1, ax0), (.getfield 12, 3, (axF 3 3 (2, 1, 7, some 0))), (.aload_n 0, 1, ax0), (.getfield 43, 3, (axF 3 4 (0, 0, 0, none)))] (pc' := 21) (L' := [some (aR 3 0 49), some (aI v1)]) (stk' := [aI (σ6.1 49 4), aR 7 0 50, aR 3 0 49]) (σ' := σ6) (g := []) (by decide +kernel) rfl rfl ?_
    obtain ⟨r10, σ9, h8, h⟩ := bnd_some h
    refine aw_cV (P' := pX7_place) (idx := 84) (d' := 1) (c := 7) (n := 0) (k := 50) [aI (σ6.1 49 4)] [aR 3 0 49] (ov := (some (aI r10))) (stk2 := [aI r10, aR 3 0 49]) okp_X7_place (by decide +kernel) ml_RX3_84 vok_X7_place (by decide) rfl nar_X7_place (by decide) rfl (Nat.le_of_ble_eq_true rfl) (ok_X7_place h8) rfl ?_
    obtain ⟨σ11, e12, h⟩ := ltσ_some h
    refine aw_seq [(.putfield 81, 3, (axF 3 2 (0, 0, 0, none)))] (pc' := 27) (L' := [some (aR 3 0 49), some (aI v1)]) (stk' := []) (σ' := σ11) (g := []) (by decide +kernel) (by rw [e12]; rfl) rfl ?_
    refine aw_forget (L' := [some (aR 3 0 49), none]) (lsub_s (lsub_n (lsub_0))) ?_
    exact ok_X3_fail_27 σ11 _ h
def f_X7_kind_23   (s0 : Int32) (σ : Sg) : Option (Int32 × Sg) :=
  some (s0, σ)
set_option maxRecDepth 100000 in
set_option maxHeartbeats 4000000 in
theorem ok_X7_kind_23 {κ : Kd}    : ∀ (s0 : Int32) (σ : Sg) (q : (Int32 × Sg)), f_X7_kind_23 s0 σ = some q → AW κ pX7_kind 1 (some (aI q.1), q.2) 23 [none, none] [aI s0] σ := by
  intro s0 σ q h
  unfold f_X7_kind_23 at h
  cases h
  exact aw_iret rfl (by decide +kernel)
def f_X7_kind_21    (σ : Sg) : Option (Int32 × Sg) :=
  f_X7_kind_23 45 σ
set_option maxRecDepth 100000 in
set_option maxHeartbeats 4000000 in
theorem ok_X7_kind_21 {κ : Kd}    : ∀  (σ : Sg) (q : (Int32 × Sg)), f_X7_kind_21  σ = some q → AW κ pX7_kind 1 (some (aI q.1), q.2) 21 [none, none] [] σ := by
  intro  σ q h
  unfold f_X7_kind_21 at h
  refine aw_seq [(.bipush 45, 2, (axI 45))] (pc' := 23) (L' := [none, none]) (stk' := [aI 45]) (σ' := σ) (g := []) (by decide +kernel) rfl rfl ?_
  refine aw_forget (L' := [none, none]) (lsub_n (lsub_n (lsub_0))) ?_
  exact ok_X7_kind_23 45 σ _ h
def f_X7_kind (v1 : Int32) (σ : Sg) : Option (Int32 × Sg) :=
  if v1 < 0 then (
    f_X7_kind_21 σ
  ) else (
    if (σ.1 50 3) ≤ v1 then (
      f_X7_kind_21 σ
    ) else (
      grd (inb v1 301 && true) <|
      f_X7_kind_23 (σ.1 51 (ix v1)) σ
    )
  )
set_option maxRecDepth 100000 in
set_option maxHeartbeats 4000000 in
theorem ok_X7_kind {κ : Kd} {v1 : Int32} {σ : Sg} {q : (Int32 × Sg)} (h : f_X7_kind v1 σ = some q) : AMet κ pX7_kind 1 [aR 7 0 50, aI v1] σ (some (aI q.1), q.2) := by
  unfold f_X7_kind at h
  refine amet_of okp_X7_kind [(false, aR 7 0 50), (false, aI v1)] (List.forall_mem_cons.mpr ⟨rfl, List.forall_mem_cons.mpr ⟨rfl, (fun _ hn => absurd hn List.not_mem_nil)⟩⟩) 0 rfl ?_
  show AW κ pX7_kind 1 (some (aI q.1), q.2) 0 [some (aR 7 0 50), some (aI v1)] [] σ
  refine aw_seq [(.iload_n 1, 1, ax0)] (pc' := 1) (L' := [some (aR 7 0 50), some (aI v1)]) (stk' := [aI v1]) (σ' := σ) (g := []) (by decide +kernel) rfl rfl ?_
  refine aw_if_lt (off := 20) (tgt := 21) (by decide +kernel) (by decide) (fun c1 => ?_) (fun c1 => ?_)
  · rw [if_pos c1] at h
    refine aw_forget (L' := [none, none]) (lsub_n (lsub_n (lsub_0))) ?_
    exact ok_X7_kind_21 σ _ h
  · rw [if_neg c1] at h
    refine aw_seq [(.iload_n 1, 1, ax0), (.aload_n 0, 1, ax0), (.getfield 21, 3, (axF 7 3 (0, 0, 0, none)))] (pc' := 9) (L' := [some (aR 7 0 50), some (aI v1)]) (stk' := [aI (σ.1 50 3), aI v1]) (σ' := σ) (g := []) (by decide +kernel) rfl rfl ?_
    refine aw_icmp_ge (off := 12) (tgt := 21) (by decide +kernel) (by decide) (fun c1 => ?_) (fun c1 => ?_)
    · rw [if_pos c1] at h
      refine aw_forget (L' := [none, none]) (lsub_n (lsub_n (lsub_0))) ?_
      exact ok_X7_kind_21 σ _ h
    · rw [if_neg c1] at h
      obtain ⟨hg, h⟩ := grd_some h
      refine aw_seq [(.aload_n 0, 1, ax0), (.getfield 9, 3, (axF 7 0 (2, 1, 13, some 301))), (.iload_n 1, 1, ax0), (.iaload, 1, ax0)] (pc' := 18) (L' := [some (aR 7 0 50), some (aI v1)]) (stk' := [aI (σ.1 51 (ix v1))]) (σ' := σ) (g := [inb v1 301]) (by decide +kernel) rfl hg ?_
      refine aw_goto (off := 5) (tgt := 23) (by decide +kernel) (by decide) ?_
      refine aw_forget (L' := [none, none]) (lsub_n (lsub_n (lsub_0))) ?_
      exact ok_X7_kind_23 (σ.1 51 (ix v1)) σ _ h
def f_X3_take_33    (σ : Sg) : Option Sg :=
  some σ
set_option maxRecDepth 100000 in
set_option maxHeartbeats 4000000 in
theorem ok_X3_take_33 {κ : Kd}    : ∀  (σ : Sg) (q : Sg), f_X3_take_33  σ = some q → AW κ pX3_take 3 (none, q) 33 [none, none] [] σ := by
  intro  σ q h
  unfold f_X3_take_33 at h
  cases h
  exact aw_vret rfl (by decide +kernel)
def f_X3_take (v1 : Int32) (σ : Sg) : Option Sg :=
  bnd (f_X7_kind (σ.1 49 4) σ) fun r3 σ2 =>
  if r3 = v1 then (
    ltσ (wI σ2 49 4 ((σ2.1 49 4) + 1)) fun σ6 =>
    f_X3_take_33 σ6
  ) else (
    bndV (f_X3_fail 1 σ2) fun σ5 =>
    f_X3_take_33 σ5
  )
set_option maxRecDepth 100000 in
set_option maxHeartbeats 4000000 in
theorem ok_X3_take {κ : Kd} {v1 : Int32} {σ : Sg} {q : Sg} (h : f_X3_take v1 σ = some q) : AMet κ pX3_take 3 [aR 3 0 49, aI v1] σ (none, q) := by
  unfold f_X3_take at h
  refine amet_of okp_X3_take [(false, aR 3 0 49), (false, aI v1)] (List.forall_mem_cons.mpr ⟨rfl, List.forall_mem_cons.mpr ⟨rfl, (fun _ hn => absurd hn List.not_mem_nil)⟩⟩) 0 rfl ?_
  show AW κ pX3_take 3 (none, q) 0 [some (aR 3 0 49), some (aI v1)] [] σ
  refine aw_seq [(.aload_n 0, 1, ax0), (.getfield 12, 3, (axF 3 3 (2, 1, 7, some 0))), (.aload_n 0, 1, ax0), (.getfield 43, 3, (axF 3 4 (0, 0, 0, none)))] (pc' := 8) (L' := [some (aR 3 0 49), some (aI v1)]) (stk' := [aI (σ.1 49 4), aR 7 0 50]) (σ' := σ) (g := []) (by decide +kernel) rfl rfl ?_
  obtain ⟨r3, σ2, h1, h⟩ := bnd_some h
  refine aw_cV (P' := pX7_kind) (idx := 47) (d' := 1) (c := 7) (n := 0) (k := 50) [aI (σ.1 49 4)] [] (ov := (some (aI r3))) (stk2 := [aI r3]) okp_X7_kind (by decide +kernel) ml_RX3_47 vok_X7_kind (by decide) rfl nar_X7_kind (by decide) rfl (Nat.le_of_ble_eq_true rfl) (ok_X7_kind h1) rfl ?_
  refine aw_seq [(.iload_n 1, 1, ax0)] (pc' := 12) (L' := [some (aR 3 0 49), some (aI v1)]) (stk' := [aI v1, aI r3]) (σ' := σ2) (g := []) (by decide +kernel) rfl rfl ?_
  refine aw_icmp_ne (off := 16) (tgt := 28) (by decide +kernel) (by decide) (fun c1 => ?_) (fun c1 => ?_)
  · rw [if_neg c1] at h
    refine aw_seq [(.aload_n 0, 1, ax0), (.iconst 1, 1, (axI 1))] (pc' := 30) (L' := [some (aR 3 0 49), some (aI v1)]) (stk' := [aI 1, aR 3 0 49]) (σ' := σ2) (g := []) (by decide +kernel) rfl rfl ?_
    obtain ⟨σ5, h4, h⟩ := bndV_some h
    refine aw_cV (P' := pX3_fail) (idx := 90) (d' := 2) (c := 3) (n := 0) (k := 49) [aI 1] [] (ov := none) (stk2 := []) okp_X3_fail (by decide +kernel) ml_RX3_90 vok_X3_fail (by decide) rfl nar_X3_fail (by decide) rfl (Nat.le_of_ble_eq_true rfl) (ok_X3_fail h4) rfl ?_
    refine aw_forget (L' := [none, none]) (lsub_n (lsub_n (lsub_0))) ?_
    exact ok_X3_take_33 σ5 _ h
  · rw [if_pos c1] at h
    obtain ⟨σ6, e7, h⟩ := ltσ_some h
    refine aw_seq [(.aload_n 0, 1, ax0), (.dup, 1, ax0), (.getfield 43, 3, (axF 3 4 (0, 0, 0, none))), (.iconst 1, 1, (axI 1)), (.iadd, 1, ax0), (.putfield 43, 3, (axF 3 4 (0, 0, 0, none)))] (pc' := 25) (L' := [some (aR 3 0 49), some (aI v1)]) (stk' := []) (σ' := σ6) (g := []) (by decide +kernel) (by rw [e7]; rfl) rfl ?_
    refine aw_goto (off := 8) (tgt := 33) (by decide +kernel) (by decide) ?_
    refine aw_forget (L' := [none, none]) (lsub_n (lsub_n (lsub_0))) ?_
    exact ok_X3_take_33 σ6 _ h
def f_X7_number_22   (s0 : Int32) (σ : Sg) : Option (Int32 × Sg) :=
  some (s0, σ)
set_option maxRecDepth 100000 in
set_option maxHeartbeats 4000000 in
theorem ok_X7_number_22 {κ : Kd}    : ∀ (s0 : Int32) (σ : Sg) (q : (Int32 × Sg)), f_X7_number_22 s0 σ = some q → AW κ pX7_number 1 (some (aI q.1), q.2) 22 [none, none] [aI s0] σ := by
  intro s0 σ q h
  unfold f_X7_number_22 at h
  cases h
  exact aw_iret rfl (by decide +kernel)
def f_X7_number_21    (σ : Sg) : Option (Int32 × Sg) :=
  f_X7_number_22 0 σ
set_option maxRecDepth 100000 in
set_option maxHeartbeats 4000000 in
theorem ok_X7_number_21 {κ : Kd}    : ∀  (σ : Sg) (q : (Int32 × Sg)), f_X7_number_21  σ = some q → AW κ pX7_number 1 (some (aI q.1), q.2) 21 [none, none] [] σ := by
  intro  σ q h
  unfold f_X7_number_21 at h
  refine aw_seq [(.iconst 0, 1, (axI 0))] (pc' := 22) (L' := [none, none]) (stk' := [aI 0]) (σ' := σ) (g := []) (by decide +kernel) rfl rfl ?_
  refine aw_forget (L' := [none, none]) (lsub_n (lsub_n (lsub_0))) ?_
  exact ok_X7_number_22 0 σ _ h
def f_X7_number (v1 : Int32) (σ : Sg) : Option (Int32 × Sg) :=
  if v1 < 0 then (
    f_X7_number_21 σ
  ) else (
    if (σ.1 50 3) ≤ v1 then (
      f_X7_number_21 σ
    ) else (
      grd (inb v1 301 && true) <|
      f_X7_number_22 (σ.1 52 (ix v1)) σ
    )
  )
set_option maxRecDepth 100000 in
set_option maxHeartbeats 4000000 in
theorem ok_X7_number {κ : Kd} {v1 : Int32} {σ : Sg} {q : (Int32 × Sg)} (h : f_X7_number v1 σ = some q) : AMet κ pX7_number 1 [aR 7 0 50, aI v1] σ (some (aI q.1), q.2) := by
  unfold f_X7_number at h
  refine amet_of okp_X7_number [(false, aR 7 0 50), (false, aI v1)] (List.forall_mem_cons.mpr ⟨rfl, List.forall_mem_cons.mpr ⟨rfl, (fun _ hn => absurd hn List.not_mem_nil)⟩⟩) 0 rfl ?_
  show AW κ pX7_number 1 (some (aI q.1), q.2) 0 [some (aR 7 0 50), some (aI v1)] [] σ
  refine aw_seq [(.iload_n 1, 1, ax0)] (pc' := 1) (L' := [some (aR 7 0 50), some (aI v1)]) (stk' := [aI v1]) (σ' := σ) (g := []) (by decide +kernel) rfl rfl ?_
  refine aw_if_lt (off := 20) (tgt := 21) (by decide +kernel) (by decide) (fun c1 => ?_) (fun c1 => ?_)
  · rw [if_pos c1] at h
    refine aw_forget (L' := [none, none]) (lsub_n (lsub_n (lsub_0))) ?_
    exact ok_X7_number_21 σ _ h
  · rw [if_neg c1] at h
    refine aw_seq [(.iload_n 1, 1, ax0), (.aload_n 0, 1, ax0), (.getfield 21, 3, (axF 7 3 (0, 0, 0, none)))] (pc' := 9) (L' := [some (aR 7 0 50), some (aI v1)]) (stk' := [aI (σ.1 50 3), aI v1]) (σ' := σ) (g := []) (by decide +kernel) rfl rfl ?_
    refine aw_icmp_ge (off := 12) (tgt := 21) (by decide +kernel) (by decide) (fun c1 => ?_) (fun c1 => ?_)
    · rw [if_pos c1] at h
      refine aw_forget (L' := [none, none]) (lsub_n (lsub_n (lsub_0))) ?_
      exact ok_X7_number_21 σ _ h
    · rw [if_neg c1] at h
      obtain ⟨hg, h⟩ := grd_some h
      refine aw_seq [(.aload_n 0, 1, ax0), (.getfield 15, 3, (axF 7 1 (2, 2, 13, some 301))), (.iload_n 1, 1, ax0), (.iaload, 1, ax0)] (pc' := 18) (L' := [some (aR 7 0 50), some (aI v1)]) (stk' := [aI (σ.1 52 (ix v1))]) (σ' := σ) (g := [inb v1 301]) (by decide +kernel) rfl hg ?_
      refine aw_goto (off := 4) (tgt := 22) (by decide +kernel) (by decide) ?_
      refine aw_forget (L' := [none, none]) (lsub_n (lsub_n (lsub_0))) ?_
      exact ok_X7_number_22 (σ.1 52 (ix v1)) σ _ h
def f_X3_takeNumber_63   (v3 : Int32) (σ : Sg) : Option (Int32 × Sg) :=
  some (v3, σ)
set_option maxRecDepth 100000 in
set_option maxHeartbeats 4000000 in
theorem ok_X3_takeNumber_63 {κ : Kd}    : ∀ (v3 : Int32) (σ : Sg) (q : (Int32 × Sg)), f_X3_takeNumber_63 v3 σ = some q → AW κ pX3_takeNumber 3 (some (aI q.1), q.2) 63 [none, none, none, some (aI v3)] [] σ := by
  intro v3 σ q h
  unfold f_X3_takeNumber_63 at h
  refine aw_seq [(.iload_n 3, 1, ax0)] (pc' := 64) (L' := [none, none, none, some (aI v3)]) (stk' := [aI v3]) (σ' := σ) (g := []) (by decide +kernel) rfl rfl ?_
  cases h
  exact aw_iret rfl (by decide +kernel)
def f_X3_takeNumber (v1 : Int32) (v2 : Int32) (σ : Sg) : Option (Int32 × Sg) :=
  bnd (f_X7_number (σ.1 49 4) σ) fun r3 σ2 =>
  bnd (f_X7_kind (σ2.1 49 4) σ2) fun r6 σ5 =>
  if r6 = 43 then (
    bnd (f_X11_within r3 v1 v2 σ5) fun r9 σ8 =>
    if r9 = 0 then (
      bndV (f_X3_fail 2 σ8) fun σ13 =>
      f_X3_takeNumber_63 r3 σ13
    ) else (
      ltσ (wI σ8 49 4 ((σ8.1 49 4) + 1)) fun σ10 =>
      f_X3_takeNumber_63 r3 σ10
    )
  ) else (
    bndV (f_X3_fail 1 σ5) fun σ15 =>
    f_X3_takeNumber_63 r3 σ15
  )
set_option maxRecDepth 100000 in
set_option maxHeartbeats 4000000 in
theorem ok_X3_takeNumber {κ : Kd} {v1 : Int32} {v2 : Int32} {σ : Sg} {q : (Int32 × Sg)} (h : f_X3_takeNumber v1 v2 σ = some q) : AMet κ pX3_takeNumber 3 [aR 3 0 49, aI v1, aI v2] σ (some (aI q.1), q.2) := by
  unfold f_X3_takeNumber at h
  refine amet_of okp_X3_takeNumber [(false, aR 3 0 49), (false, aI v1), (false, aI v2)] (List.forall_mem_cons.mpr ⟨rfl, List.forall_mem_cons.mpr ⟨rfl, List.forall_mem_cons.mpr ⟨rfl, (fun _ hn => absurd hn List.not_mem_nil)⟩⟩⟩) 1 rfl ?_
  show AW κ pX3_takeNumber 3 (some (aI q.1), q.2) 0 [some (aR 3 0 49), some (aI v1), some (aI v2), none] [] σ
  refine aw_seq [(.aload_n 0, 1, ax0), (.getfield 12, 3, (axF 3 3 (2, 1, 7, some 0))), (.aload_n 0, 1, ax0), (.getfield 43, 3, (axF 3 4 (0, 0, 0, none)))] (pc' := 8) (L' := [some (aR 3 0 49), some (aI v1), some (aI v2), none]) (stk' := [aI (σ.1 49 4), aR 7 0 50]) (σ' := σ) (g := []) (by decide +kernel) rfl rfl ?_
  obtain ⟨r3, σ2, h1, h⟩ := bnd_some h
  refine aw_cV (P' := pX7_number) (idx := 94) (d' := 1) (c := 7) (n := 0) (k := 50) [aI (σ.1 49 4)] [] (ov := (some (aI r3))) (stk2 := [aI r3]) okp_X7_number (by decide +kernel) ml_RX3_94 vok_X7_number (by decide) rfl nar_X7_number (by decide) rfl (Nat.le_of_ble_eq_true rfl) (ok_X7_number h1) rfl ?_
  refine aw_seq [(.istore_n 3, 1, ax0), (.aload_n 0, 1, ax0), (.getfield 12, 3, (axF 3 3 (2, 1, 7, some 0))), (.aload_n 0, 1, ax0), (.getfield 43, 3, (axF 3 4 (0, 0, 0, none)))] (pc' := 20) (L' := [some (aR 3 0 49), some (aI v1), some (aI v2), some (aI r3)]) (stk' := [aI (σ2.1 49 4), aR 7 0 50]) (σ' := σ2) (g := []) (by decide +kernel) rfl rfl ?_
  obtain ⟨r6, σ5, h4, h⟩ := bnd_some h
  refine aw_cV (P' := pX7_kind) (idx := 47) (d' := 1) (c := 7) (n := 0) (k := 50) [aI (σ2.1 49 4)] [] (ov := (some (aI r6))) (stk2 := [aI r6]) okp_X7_kind (by decide +kernel) ml_RX3_47 vok_X7_kind (by decide) rfl nar_X7_kind (by decide) rfl (Nat.le_of_ble_eq_true rfl) (ok_X7_kind h4) rfl ?_
  refine aw_seq [(.bipush 43, 2, (axI 43))] (pc' := 25) (L' := [some (aR 3 0 49), some (aI v1), some (aI v2), some (aI r3)]) (stk' := [aI 43, aI r6]) (σ' := σ5) (g := []) (by decide +kernel) rfl rfl ?_
  refine aw_icmp_eq (off := 11) (tgt := 36) (by decide +kernel) (by decide) (fun c1 => ?_) (fun c1 => ?_)
  · rw [if_pos c1] at h
    refine aw_seq [(.iload_n 3, 1, ax0), (.iload_n 1, 1, ax0), (.iload_n 2, 1, ax0)] (pc' := 39) (L' := [some (aR 3 0 49), some (aI v1), some (aI v2), some (aI r3)]) (stk' := [aI v2, aI v1, aI r3]) (σ' := σ5) (g := []) (by decide +kernel) rfl rfl ?_
    obtain ⟨r9, σ8, h7, h⟩ := bnd_some h
    refine aw_cSN (P' := pX11_within) (idx := 97) (d' := 1) [aI r3, aI v1, aI v2] [] (ov := (some (aI r9))) (stk2 := [aI r9]) okp_X11_within (by decide +kernel) ml_RX3_97 tok_X11_within nar_X11_within (by decide) rfl (Nat.le_of_ble_eq_true rfl) (ok_X11_within h7) rfl ?_
    refine aw_if_ne (off := 11) (tgt := 53) (by decide +kernel) (by decide) (fun c1 => ?_) (fun c1 => ?_)
    · rw [if_neg c1] at h
      obtain ⟨σ10, e11, h⟩ := ltσ_some h
      refine aw_seq [(.aload_n 0, 1, ax0), (.dup, 1, ax0), (.getfield 43, 3, (axF 3 4 (0, 0, 0, none))), (.iconst 1, 1, (axI 1)), (.iadd, 1, ax0), (.putfield 43, 3, (axF 3 4 (0, 0, 0, none)))] (pc' := 63) (L' := [some (aR 3 0 49), some (aI v1), some (aI v2), some (aI r3)]) (stk' := []) (σ' := σ10) (g := []) (by decide +kernel) (by rw [e11]; rfl) rfl ?_
      refine aw_forget (L' := [none, none, none, some (aI r3)]) (lsub_n (lsub_n (lsub_n (lsub_s (lsub_0))))) ?_
      exact ok_X3_takeNumber_63 r3 σ10 _ h
    · rw [if_pos c1] at h
      refine aw_seq [(.aload_n 0, 1, ax0), (.iconst 2, 1, (axI 2))] (pc' := 47) (L' := [some (aR 3 0 49), some (aI v1), some (aI v2), some (aI r3)]) (stk' := [aI 2, aR 3 0 49]) (σ' := σ8) (g := []) (by decide +kernel) rfl rfl ?_
      obtain ⟨σ13, h12, h⟩ := bndV_some h
      refine aw_cV (P' := pX3_fail) (idx := 90) (d' := 2) (c := 3) (n := 0) (k := 49) [aI 2] [] (ov := none) (stk2 := []) okp_X3_fail (by decide +kernel) ml_RX3_90 vok_X3_fail (by decide) rfl nar_X3_fail (by decide) rfl (Nat.le_of_ble_eq_true rfl) (ok_X3_fail h12) rfl ?_
      refine aw_goto (off := 13) (tgt := 63) (by decide +kernel) (by decide) ?_
      refine aw_forget (L' := [none, none, none, some (aI r3)]) (lsub_n (lsub_n (lsub_n (lsub_s (lsub_0))))) ?_
      exact ok_X3_takeNumber_63 r3 σ13 _ h
  · rw [if_neg c1] at h
    refine aw_seq [(.aload_n 0, 1, ax0), (.iconst 1, 1, (axI 1))] (pc' := 30) (L' := [some (aR 3 0 49), some (aI v1), some (aI v2), some (aI r3)]) (stk' := [aI 1, aR 3 0 49]) (σ' := σ5) (g := []) (by decide +kernel) rfl rfl ?_
    obtain ⟨σ15, h14, h⟩ := bndV_some h
    refine aw_cV (P' := pX3_fail) (idx := 90) (d' := 2) (c := 3) (n := 0) (k := 49) [aI 1] [] (ov := none) (stk2 := []) okp_X3_fail (by decide +kernel) ml_RX3_90 vok_X3_fail (by decide) rfl nar_X3_fail (by decide) rfl (Nat.le_of_ble_eq_true rfl) (ok_X3_fail h14) rfl ?_
    refine aw_goto (off := 30) (tgt := 63) (by decide +kernel) (by decide) ?_
    refine aw_forget (L' := [none, none, none, some (aI r3)]) (lsub_n (lsub_n (lsub_n (lsub_s (lsub_0))))) ?_
    exact ok_X3_takeNumber_63 r3 σ15 _ h
def f_X3_addClause_66    (σ : Sg) : Option Sg :=
  some σ
set_option maxRecDepth 100000 in
set_option maxHeartbeats 4000000 in
theorem ok_X3_addClause_66 {κ : Kd}    : ∀  (σ : Sg) (q : Sg), f_X3_addClause_66  σ = some q → AW κ pX3_addClause 1 (none, q) 66 [none, none, none, none, none, none] [] σ := by
  intro  σ q h
  unfold f_X3_addClause_66 at h
  cases h
  exact aw_vret rfl (by decide +kernel)
def f_X3_addClause (v1 : Int32) (v2 : Int32) (v3 : Int32) (v4 : Int32) (σ : Sg) : Option Sg :=
  if 24 ≤ (σ.1 49 6) then (
    f_X3_addClause_66 σ
  ) else (
    grd (inb ((σ.1 49 6) * 4) 96 && true) <|
    ltσ (wI σ 54 (ix ((σ.1 49 6) * 4)) v1) fun σ1 =>
    grd (inb (((σ.1 49 6) * 4) + 1) 96 && true) <|
    ltσ (wI σ1 54 (ix (((σ.1 49 6) * 4) + 1)) v2) fun σ3 =>
    grd (inb (((σ.1 49 6) * 4) + 2) 96 && true) <|
    ltσ (wI σ3 54 (ix (((σ.1 49 6) * 4) + 2)) v3) fun σ5 =>
    grd (inb (((σ.1 49 6) * 4) + 3) 96 && true) <|
    ltσ (wI σ5 54 (ix (((σ.1 49 6) * 4) + 3)) v4) fun σ7 =>
    ltσ (wI σ7 49 6 ((σ7.1 49 6) + 1)) fun σ9 =>
    f_X3_addClause_66 σ9
  )
set_option maxRecDepth 100000 in
set_option maxHeartbeats 4000000 in
theorem ok_X3_addClause {κ : Kd} {v1 : Int32} {v2 : Int32} {v3 : Int32} {v4 : Int32} {σ : Sg} {q : Sg} (h : f_X3_addClause v1 v2 v3 v4 σ = some q) : AMet κ pX3_addClause 1 [aR 3 0 49, aI v1, aI v2, aI v3, aI v4] σ (none, q) := by
  unfold f_X3_addClause at h
  refine amet_of okp_X3_addClause [(false, aR 3 0 49), (false, aI v1), (false, aI v2), (false, aI v3), (false, aI v4)] (List.forall_mem_cons.mpr ⟨rfl, List.forall_mem_cons.mpr ⟨rfl, List.forall_mem_cons.mpr ⟨rfl, List.forall_mem_cons.mpr ⟨rfl, List.forall_mem_cons.mpr ⟨rfl, (fun _ hn => absurd hn List.not_mem_nil)⟩⟩⟩⟩⟩) 1 rfl ?_
  show AW κ pX3_addClause 1 (none, q) 0 [some (aR 3 0 49), some (aI v1), some (aI v2), some (aI v3), some (aI v4), none] [] σ
  refine aw_seq [(.aload_n 0, 1, ax0), (.getfield 57, 3, (axF 3 6 (0, 0, 0, none))), (.iconst 4, 1, (axI 4)), (.imul, 1, ax0), (.istore 5, 2, ax0), (.aload_n 0, 1, ax0), (.getfield 57, 3, (axF 3 6 (0, 0, 0, none))), (.bipush 24, 2, (axI 24))] (pc' := 14) (L' := [some (aR 3 0 49), some (aI v1), some (aI v2), some (aI v3), some (aI v4), some (aI ((σ.1 49 6) * 4))]) (stk' := [aI 24, aI (σ.1 49 6)]) (σ' := σ) (g := []) (by decide +kernel) rfl rfl ?_
  refine aw_icmp_ge (off := 52) (tgt := 66) (by decide +kernel) (by decide) (fun c1 => ?_) (fun c1 => ?_)
  · rw [if_pos c1] at h
    refine aw_forget (L' := [none, none, none, none, none, none]) (lsub_n (lsub_n (lsub_n (lsub_n (lsub_n (lsub_n (lsub_0))))))) ?_
    exact ok_X3_addClause_66 σ _ h
  · rw [if_neg c1] at h
    obtain ⟨hg, h⟩ := grd_some h
    obtain ⟨σ1, e2, h⟩ := ltσ_some h
    refine aw_seq [(.aload_n 0, 1, ax0), (.getfield 20, 3, (axF 3 5 (2, 5, 13, some 96))), (.iload 5, 2, ax0), (.iload_n 1, 1, ax0), (.iastore, 1, ax0)] (pc' := 25) (L' := [some (aR 3 0 49), some (aI v1), some (aI v2), some (aI v3), some (aI v4), some (aI ((σ.1 49 6) * 4))]) (stk' := []) (σ' := σ1) (g := [inb ((σ.1 49 6) * 4) 96]) (by decide +kernel) (by rw [e2]; rfl) hg ?_
    obtain ⟨hg, h⟩ := grd_some h
    obtain ⟨σ3, e4, h⟩ := ltσ_some h
    refine aw_seq [(.aload_n 0, 1, ax0), (.getfield 20, 3, (axF 3 5 (2, 5, 13, some 96))), (.iload 5, 2, ax0), (.iconst 1, 1, (axI 1)), (.iadd, 1, ax0), (.iload_n 2, 1, ax0), (.iastore, 1, ax0)] (pc' := 35) (L' := [some (aR 3 0 49), some (aI v1), some (aI v2), some (aI v3), some (aI v4), some (aI ((σ.1 49 6) * 4))]) (stk' := []) (σ' := σ3) (g := [inb (((σ.1 49 6) * 4) + 1) 96]) (by decide +kernel) (by rw [e4]; rfl) hg ?_
    obtain ⟨hg, h⟩ := grd_some h
    obtain ⟨σ5, e6, h⟩ := ltσ_some h
    refine aw_seq [(.aload_n 0, 1, ax0), (.getfield 20, 3, (axF 3 5 (2, 5, 13, some 96))), (.iload 5, 2, ax0), (.iconst 2, 1, (axI 2)), (.iadd, 1, ax0), (.iload_n 3, 1, ax0), (.iastore, 1, ax0)] (pc' := 45) (L' := [some (aR 3 0 49), some (aI v1), some (aI v2), some (aI v3), some (aI v4), some (aI ((σ.1 49 6) * 4))]) (stk' := []) (σ' := σ5) (g := [inb (((σ.1 49 6) * 4) + 2) 96]) (by decide +kernel) (by rw [e6]; rfl) hg ?_
    obtain ⟨hg, h⟩ := grd_some h
    obtain ⟨σ7, e8, h⟩ := ltσ_some h
    refine aw_seq [(.aload_n 0, 1, ax0), (.getfield 20, 3, (axF 3 5 (2, 5, 13, some 96))), (.iload 5, 2, ax0), (.iconst 3, 1, (axI 3)), (.iadd, 1, ax0), (.iload 4, 2, ax0), (.iastore, 1, ax0)] (pc' := 56) (L' := [some (aR 3 0 49), some (aI v1), some (aI v2), some (aI v3), some (aI v4), some (aI ((σ.1 49 6) * 4))]) (stk' := []) (σ' := σ7) (g := [inb (((σ.1 49 6) * 4) + 3) 96]) (by decide +kernel) (by rw [e8]; rfl) hg ?_
    obtain ⟨σ9, e10, h⟩ := ltσ_some h
    refine aw_seq [(.aload_n 0, 1, ax0), (.dup, 1, ax0), (.getfield 57, 3, (axF 3 6 (0, 0, 0, none))), (.iconst 1, 1, (axI 1)), (.iadd, 1, ax0), (.putfield 57, 3, (axF 3 6 (0, 0, 0, none)))] (pc' := 66) (L' := [some (aR 3 0 49), some (aI v1), some (aI v2), some (aI v3), some (aI v4), some (aI ((σ.1 49 6) * 4))]) (stk' := []) (σ' := σ9) (g := []) (by decide +kernel) (by rw [e10]; rfl) rfl ?_
    refine aw_forget (L' := [none, none, none, none, none, none]) (lsub_n (lsub_n (lsub_n (lsub_n (lsub_n (lsub_n (lsub_0))))))) ?_
    exact ok_X3_addClause_66 σ9 _ h
def f_X3_readAct_170   (v1 : Int32) (v2 : Int32) (v3 : Int32) (v4 : Int32) (σ : Sg) : Option Sg :=
  bndV (f_X3_addClause v1 v2 v3 v4 σ) fun σ2 =>
  some σ2
set_option maxRecDepth 100000 in
set_option maxHeartbeats 4000000 in
theorem ok_X3_readAct_170 {κ : Kd}    : ∀ (v1 : Int32) (v2 : Int32) (v3 : Int32) (v4 : Int32) (σ : Sg) (q : Sg), f_X3_readAct_170 v1 v2 v3 v4 σ = some q → AW κ pX3_readAct 4 (none, q) 170 [some (aR 3 0 49), some (aI v1), some (aI v2), some (aI v3), some (aI v4)] [] σ := by
  intro v1 v2 v3 v4 σ q h
  unfold f_X3_readAct_170 at h
  refine aw_seq [(.aload_n 0, 1, ax0), (.iload_n 1, 1, ax0), (.iload_n 2, 1, ax0), (.iload_n 3, 1, ax0), (.iload 4, 2, ax0)] (pc' := 176) (L' := [some (aR 3 0 49), some (aI v1), some (aI v2), some (aI v3), some (aI v4)]) (stk' := [aI v4, aI v3, aI v2, aI v1, aR 3 0 49]) (σ' := σ) (g := []) (by decide +kernel) rfl rfl ?_
  obtain ⟨σ2, h1, h⟩ := bndV_some h
  refine aw_cV (P' := pX3_addClause) (idx := 107) (d' := 1) (c := 3) (n := 0) (k := 49) [aI v1, aI v2, aI v3, aI v4] [] (ov := none) (stk2 := []) okp_X3_addClause (by decide +kernel) ml_RX3_107 vok_X3_addClause (by decide) rfl nar_X3_addClause (by decide) rfl (Nat.le_of_ble_eq_true rfl) (ok_X3_addClause h1) rfl ?_
  cases h
  exact aw_vret rfl (by decide +kernel)
def f_X3_readAct_162   (v1 : Int32) (v3 : Int32) (v4 : Int32) (σ : Sg) : Option Sg :=
  bnd (f_X3_takeNumber 0 7 σ) fun r5 σ4 =>
  f_X3_readAct_170 v1 r5 v3 v4 σ4
set_option maxRecDepth 100000 in
set_option maxHeartbeats 4000000 in
theorem ok_X3_readAct_162 {κ : Kd}    : ∀ (v1 : Int32) (v3 : Int32) (v4 : Int32) (σ : Sg) (q : Sg), f_X3_readAct_162 v1 v3 v4 σ = some q → AW κ pX3_readAct 4 (none, q) 162 [some (aR 3 0 49), some (aI v1), none, some (aI v3), some (aI v4)] [] σ := by
  intro v1 v3 v4 σ q h
  unfold f_X3_readAct_162 at h
  refine aw_seq [(.aload_n 0, 1, ax0), (.iconst 0, 1, (axI 0)), (.bipush 7, 2, (axI 7))] (pc' := 166) (L' := [some (aR 3 0 49), some (aI v1), none, some (aI v3), some (aI v4)]) (stk' := [aI 7, aI 0, aR 3 0 49]) (σ' := σ) (g := []) (by decide +kernel) rfl rfl ?_
  obtain ⟨r5, σ4, h3, h⟩ := bnd_some h
  refine aw_cV (P' := pX3_takeNumber) (idx := 117) (d' := 3) (c := 3) (n := 0) (k := 49) [aI 0, aI 7] [] (ov := (some (aI r5))) (stk2 := [aI r5]) okp_X3_takeNumber (by decide +kernel) ml_RX3_117 vok_X3_takeNumber (by decide) rfl nar_X3_takeNumber (by decide) rfl (Nat.le_of_ble_eq_true rfl) (ok_X3_takeNumber h3) rfl ?_
  refine aw_seq [(.istore_n 2, 1, ax0)] (pc' := 170) (L' := [some (aR 3 0 49), some (aI v1), some (aI r5), some (aI v3), some (aI v4)]) (stk' := []) (σ' := σ4) (g := []) (by decide +kernel) rfl rfl ?_
  refine aw_forget (L' := [some (aR 3 0 49), some (aI v1), some (aI r5), some (aI v3), some (aI v4)]) (lsub_s (lsub_s (lsub_s (lsub_s (lsub_s (lsub_0)))))) ?_
  exact ok_X3_readAct_170 v1 r5 v3 v4 σ4 _ h
def f_X3_readAct (v1 : Int32) (σ : Sg) : Option Sg :=
  if v1 = 3 then (
    bnd (f_X3_takeNumber 0 9 σ) fun r8 σ7 =>
    bndV (f_X3_take 20 σ7) fun σ10 =>
    bnd (f_X3_takeNumber 0 9999 σ10) fun r13 σ12 =>
    f_X3_readAct_170 v1 r8 r13 (-1) σ12
  ) else (
  if v1 = 4 then (
    bnd (f_X3_takeNumber 0 7 σ) fun r16 σ15 =>
    bndV (f_X3_take 21 σ15) fun σ18 =>
    bnd (f_X3_takeNumber 0 7 σ18) fun r21 σ20 =>
    bndV (f_X3_take 22 σ20) fun σ23 =>
    bnd (f_X3_takeNumber 0 99 σ23) fun r26 σ25 =>
    f_X3_readAct_170 v1 r16 r21 r26 σ25
  ) else (
  if v1 = 5 then (
    f_X3_readAct_162 v1 (-1) (-1) σ
  ) else (
  if v1 = 6 then (
    f_X3_readAct_162 v1 (-1) (-1) σ
  ) else (
  if v1 = 7 then (
    f_X3_readAct_162 v1 (-1) (-1) σ
  ) else (
  if v1 = 8 then (
    bnd (f_X3_takeNumber 0 7 σ) fun r29 σ28 =>
    bndV (f_X3_take 23 σ28) fun σ31 =>
    bnd (f_X3_takeNumber 0 7 σ31) fun r34 σ33 =>
    f_X3_readAct_170 v1 r29 r34 (-1) σ33
  ) else (
  if v1 = 9 then (
    f_X3_readAct_162 v1 (-1) (-1) σ
  ) else (
  if v1 = 10 then (
    f_X3_readAct_162 v1 (-1) (-1) σ
  ) else (
  if v1 = 11 then (
    bnd (f_X3_takeNumber 1 60 σ) fun r37 σ36 =>
    f_X3_readAct_170 v1 r37 (-1) (-1) σ36
  ) else (
    f_X3_readAct_162 v1 (-1) (-1) σ
  )))))))))
set_option maxRecDepth 100000 in
set_option maxHeartbeats 4000000 in
theorem ok_X3_readAct {κ : Kd} {v1 : Int32} {σ : Sg} {q : Sg} (h : f_X3_readAct v1 σ = some q) : AMet κ pX3_readAct 4 [aR 3 0 49, aI v1] σ (none, q) := by
  unfold f_X3_readAct at h
  refine amet_of okp_X3_readAct [(false, aR 3 0 49), (false, aI v1)] (List.forall_mem_cons.mpr ⟨rfl, List.forall_mem_cons.mpr ⟨rfl, (fun _ hn => absurd hn List.not_mem_nil)⟩⟩) 3 rfl ?_
  show AW κ pX3_readAct 4 (none, q) 0 [some (aR 3 0 49), some (aI v1), none, none, none] [] σ
  refine aw_seq [(.iconst (-1), 1, (axI (-1))), (.istore_n 2, 1, ax0), (.iconst (-1), 1, (axI (-1))), (.istore_n 3, 1, ax0), (.iconst (-1), 1, (axI (-1))), (.istore 4, 2, ax0), (.iload_n 1, 1, ax0)] (pc' := 8) (L' := [some (aR 3 0 49), some (aI v1), some (aI (-1)), some (aI (-1)), some (aI (-1))]) (stk' := [aI v1]) (σ' := σ) (g := []) (by decide +kernel) rfl rfl ?_
  refine aw_table (dflt := 154) (lo := 3) (hi := 11) (offs := #[52, 78, 154, 154, 154, 118, 154, 154, 143]) (len := 52) (dt := 162) (by decide +kernel) [(3, 60), (4, 86), (5, 162), (6, 162), (7, 162), (8, 126), (9, 162), (10, 162), (11, 151)] (by decide +kernel) ?_
  refine awsw_cons (fun c1 => ?_) (fun c1 => ?_)
  · rw [if_pos c1] at h
    refine aw_seq [(.aload_n 0, 1, ax0), (.iconst 0, 1, (axI 0)), (.bipush 9, 2, (axI 9))] (pc' := 64) (L' := [some (aR 3 0 49), some (aI v1), some (aI (-1)), some (aI (-1)), some (aI (-1))]) (stk' := [aI 9, aI 0, aR 3 0 49]) (σ' := σ) (g := []) (by decide +kernel) rfl rfl ?_
    obtain ⟨r8, σ7, h6, h⟩ := bnd_some h
    refine aw_cV (P' := pX3_takeNumber) (idx := 117) (d' := 3) (c := 3) (n := 0) (k := 49) [aI 0, aI 9] [] (ov := (some (aI r8))) (stk2 := [aI r8]) okp_X3_takeNumber (by decide +kernel) ml_RX3_117 vok_X3_takeNumber (by decide) rfl nar_X3_takeNumber (by decide) rfl (Nat.le_of_ble_eq_true rfl) (ok_X3_takeNumber h6) rfl ?_
    refine aw_seq [(.istore_n 2, 1, ax0), (.aload_n 0, 1, ax0), (.bipush 20, 2, (axI 20))] (pc' := 71) (L' := [some (aR 3 0 49), some (aI v1), some (aI r8), some (aI (-1)), some (aI (-1))]) (stk' := [aI 20, aR 3 0 49]) (σ' := σ7) (g := []) (by decide +kernel) rfl rfl ?_
    obtain ⟨σ10, h9, h⟩ := bndV_some h
    refine aw_cV (P' := pX3_take) (idx := 114) (d' := 3) (c := 3) (n := 0) (k := 49) [aI 20] [] (ov := none) (stk2 := []) okp_X3_take (by decide +kernel) ml_RX3_114 vok_X3_take (by decide) rfl nar_X3_take (by decide) rfl (Nat.le_of_ble_eq_true rfl) (ok_X3_take h9) rfl ?_
    refine aw_seq [(.aload_n 0, 1, ax0), (.iconst 0, 1, (axI 0)), (.sipush 9999, 3, (axI 9999))] (pc' := 79) (L' := [some (aR 3 0 49), some (aI v1), some (aI r8), some (aI (-1)), some (aI (-1))]) (stk' := [aI 9999, aI 0, aR 3 0 49]) (σ' := σ10) (g := []) (by decide +kernel) rfl rfl ?_
    obtain ⟨r13, σ12, h11, h⟩ := bnd_some h
    refine aw_cV (P' := pX3_takeNumber) (idx := 117) (d' := 3) (c := 3) (n := 0) (k := 49) [aI 0, aI 9999] [] (ov := (some (aI r13))) (stk2 := [aI r13]) okp_X3_takeNumber (by decide +kernel) ml_RX3_117 vok_X3_takeNumber (by decide) rfl nar_X3_takeNumber (by decide) rfl (Nat.le_of_ble_eq_true rfl) (ok_X3_takeNumber h11) rfl ?_
    refine aw_seq [(.istore_n 3, 1, ax0)] (pc' := 83) (L' := [some (aR 3 0 49), some (aI v1), some (aI r8), some (aI r13), some (aI (-1))]) (stk' := []) (σ' := σ12) (g := []) (by decide +kernel) rfl rfl ?_
    refine aw_goto (off := 87) (tgt := 170) (by decide +kernel) (by decide) ?_
    refine aw_forget (L' := [some (aR 3 0 49), some (aI v1), some (aI r8), some (aI r13), some (aI (-1))]) (lsub_s (lsub_s (lsub_s (lsub_s (lsub_s (lsub_0)))))) ?_
    exact ok_X3_readAct_170 v1 r8 r13 (-1) σ12 _ h
  rw [if_neg c1] at h
  refine awsw_cons (fun c1 => ?_) (fun c1 => ?_)
  · rw [if_pos c1] at h
    refine aw_seq [(.aload_n 0, 1, ax0), (.iconst 0, 1, (axI 0)), (.bipush 7, 2, (axI 7))] (pc' := 90) (L' := [some (aR 3 0 49), some (aI v1), some (aI (-1)), some (aI (-1)), some (aI (-1))]) (stk' := [aI 7, aI 0, aR 3 0 49]) (σ' := σ) (g := []) (by decide +kernel) rfl rfl ?_
    obtain ⟨r16, σ15, h14, h⟩ := bnd_some h
    refine aw_cV (P' := pX3_takeNumber) (idx := 117) (d' := 3) (c := 3) (n := 0) (k := 49) [aI 0, aI 7] [] (ov := (some (aI r16))) (stk2 := [aI r16]) okp_X3_takeNumber (by decide +kernel) ml_RX3_117 vok_X3_takeNumber (by decide) rfl nar_X3_takeNumber (by decide) rfl (Nat.le_of_ble_eq_true rfl) (ok_X3_takeNumber h14) rfl ?_
    refine aw_seq [(.istore_n 2, 1, ax0), (.aload_n 0, 1, ax0), (.bipush 21, 2, (axI 21))] (pc' := 97) (L' := [some (aR 3 0 49), some (aI v1), some (aI r16), some (aI (-1)), some (aI (-1))]) (stk' := [aI 21, aR 3 0 49]) (σ' := σ15) (g := []) (by decide +kernel) rfl rfl ?_
    obtain ⟨σ18, h17, h⟩ := bndV_some h
    refine aw_cV (P' := pX3_take) (idx := 114) (d' := 3) (c := 3) (n := 0) (k := 49) [aI 21] [] (ov := none) (stk2 := []) okp_X3_take (by decide +kernel) ml_RX3_114 vok_X3_take (by decide) rfl nar_X3_take (by decide) rfl (Nat.le_of_ble_eq_true rfl) (ok_X3_take h17) rfl ?_
    refine aw_seq [(.aload_n 0, 1, ax0), (.iconst 0, 1, (axI 0)), (.bipush 7, 2, (axI 7))] (pc' := 104) (L' := [some (aR 3 0 49), some (aI v1), some (aI r16), some (aI (-1)), some (aI (-1))]) (stk' := [aI 7, aI 0, aR 3 0 49]) (σ' := σ18) (g := []) (by decide +kernel) rfl rfl ?_
    obtain ⟨r21, σ20, h19, h⟩ := bnd_some h
    refine aw_cV (P' := pX3_takeNumber) (idx := 117) (d' := 3) (c := 3) (n := 0) (k := 49) [aI 0, aI 7] [] (ov := (some (aI r21))) (stk2 := [aI r21]) okp_X3_takeNumber (by decide +kernel) ml_RX3_117 vok_X3_takeNumber (by decide) rfl nar_X3_takeNumber (by decide) rfl (Nat.le_of_ble_eq_true rfl) (ok_X3_takeNumber h19) rfl ?_
    refine aw_seq [(.istore_n 3, 1, ax0), (.aload_n 0, 1, ax0), (.bipush 22, 2, (axI 22))] (pc' := 111) (L' := [some (aR 3 0 49), some (aI v1), some (aI r16), some (aI r21), some (aI (-1))]) (stk' := [aI 22, aR 3 0 49]) (σ' := σ20) (g := []) (by decide +kernel) rfl rfl ?_
    obtain ⟨σ23, h22, h⟩ := bndV_some h
    refine aw_cV (P' := pX3_take) (idx := 114) (d' := 3) (c := 3) (n := 0) (k := 49) [aI 22] [] (ov := none) (stk2 := []) okp_X3_take (by decide +kernel) ml_RX3_114 vok_X3_take (by decide) rfl nar_X3_take (by decide) rfl (Nat.le_of_ble_eq_true rfl) (ok_X3_take h22) rfl ?_
    refine aw_seq [(.aload_n 0, 1, ax0), (.iconst 0, 1, (axI 0)), (.bipush 99, 2, (axI 99))] (pc' := 118) (L' := [some (aR 3 0 49), some (aI v1), some (aI r16), some (aI r21), some (aI (-1))]) (stk' := [aI 99, aI 0, aR 3 0 49]) (σ' := σ23) (g := []) (by decide +kernel) rfl rfl ?_
    obtain ⟨r26, σ25, h24, h⟩ := bnd_some h
    refine aw_cV (P' := pX3_takeNumber) (idx := 117) (d' := 3) (c := 3) (n := 0) (k := 49) [aI 0, aI 99] [] (ov := (some (aI r26))) (stk2 := [aI r26]) okp_X3_takeNumber (by decide +kernel) ml_RX3_117 vok_X3_takeNumber (by decide) rfl nar_X3_takeNumber (by decide) rfl (Nat.le_of_ble_eq_true rfl) (ok_X3_takeNumber h24) rfl ?_
    refine aw_seq [(.istore 4, 2, ax0)] (pc' := 123) (L' := [some (aR 3 0 49), some (aI v1), some (aI r16), some (aI r21), some (aI r26)]) (stk' := []) (σ' := σ25) (g := []) (by decide +kernel) rfl rfl ?_
    refine aw_goto (off := 47) (tgt := 170) (by decide +kernel) (by decide) ?_
    refine aw_forget (L' := [some (aR 3 0 49), some (aI v1), some (aI r16), some (aI r21), some (aI r26)]) (lsub_s (lsub_s (lsub_s (lsub_s (lsub_s (lsub_0)))))) ?_
    exact ok_X3_readAct_170 v1 r16 r21 r26 σ25 _ h
  rw [if_neg c1] at h
  refine awsw_cons (fun c1 => ?_) (fun c1 => ?_)
  · rw [if_pos c1] at h
    refine aw_forget (L' := [some (aR 3 0 49), some (aI v1), none, some (aI (-1)), some (aI (-1))]) (lsub_s (lsub_s (lsub_n (lsub_s (lsub_s (lsub_0)))))) ?_
    exact ok_X3_readAct_162 v1 (-1) (-1) σ _ h
  rw [if_neg c1] at h
  refine awsw_cons (fun c1 => ?_) (fun c1 => ?_)
  · rw [if_pos c1] at h
    refine aw_forget (L' := [some (aR 3 0 49), some (aI v1), none, some (aI (-1)), some (aI (-1))]) (lsub_s (lsub_s (lsub_n (lsub_s (lsub_s (lsub_0)))))) ?_
    exact ok_X3_readAct_162 v1 (-1) (-1) σ _ h
  rw [if_neg c1] at h
  refine awsw_cons (fun c1 => ?_) (fun c1 => ?_)
  · rw [if_pos c1] at h
    refine aw_forget (L' := [some (aR 3 0 49), some (aI v1), none, some (aI (-1)), some (aI (-1))]) (lsub_s (lsub_s (lsub_n (lsub_s (lsub_s (lsub_0)))))) ?_
    exact ok_X3_readAct_162 v1 (-1) (-1) σ _ h
  rw [if_neg c1] at h
  refine awsw_cons (fun c1 => ?_) (fun c1 => ?_)
  · rw [if_pos c1] at h
    refine aw_seq [(.aload_n 0, 1, ax0), (.iconst 0, 1, (axI 0)), (.bipush 7, 2, (axI 7))] (pc' := 130) (L' := [some (aR 3 0 49), some (aI v1), some (aI (-1)), some (aI (-1)), some (aI (-1))]) (stk' := [aI 7, aI 0, aR 3 0 49]) (σ' := σ) (g := []) (by decide +kernel) rfl rfl ?_
    obtain ⟨r29, σ28, h27, h⟩ := bnd_some h
    refine aw_cV (P' := pX3_takeNumber) (idx := 117) (d' := 3) (c := 3) (n := 0) (k := 49) [aI 0, aI 7] [] (ov := (some (aI r29))) (stk2 := [aI r29]) okp_X3_takeNumber (by decide +kernel) ml_RX3_117 vok_X3_takeNumber (by decide) rfl nar_X3_takeNumber (by decide) rfl (Nat.le_of_ble_eq_true rfl) (ok_X3_takeNumber h27) rfl ?_
    refine aw_seq [(.istore_n 2, 1, ax0), (.aload_n 0, 1, ax0), (.bipush 23, 2, (axI 23))] (pc' := 137) (L' := [some (aR 3 0 49), some (aI v1), some (aI r29), some (aI (-1)), some (aI (-1))]) (stk' := [aI 23, aR 3 0 49]) (σ' := σ28) (g := []) (by decide +kernel) rfl rfl ?_
    obtain ⟨σ31, h30, h⟩ := bndV_some h
    refine aw_cV (P' := pX3_take) (idx := 114) (d' := 3) (c := 3) (n := 0) (k := 49) [aI 23] [] (ov := none) (stk2 := []) okp_X3_take (by decide +kernel) ml_RX3_114 vok_X3_take (by decide) rfl nar_X3_take (by decide) rfl (Nat.le_of_ble_eq_true rfl) (ok_X3_take h30) rfl ?_
    refine aw_seq [(.aload_n 0, 1, ax0), (.iconst 0, 1, (axI 0)), (.bipush 7, 2, (axI 7))] (pc' := 144) (L' := [some (aR 3 0 49), some (aI v1), some (aI r29), some (aI (-1)), some (aI (-1))]) (stk' := [aI 7, aI 0, aR 3 0 49]) (σ' := σ31) (g := []) (by decide +kernel) rfl rfl ?_
    obtain ⟨r34, σ33, h32, h⟩ := bnd_some h
    refine aw_cV (P' := pX3_takeNumber) (idx := 117) (d' := 3) (c := 3) (n := 0) (k := 49) [aI 0, aI 7] [] (ov := (some (aI r34))) (stk2 := [aI r34]) okp_X3_takeNumber (by decide +kernel) ml_RX3_117 vok_X3_takeNumber (by decide) rfl nar_X3_takeNumber (by decide) rfl (Nat.le_of_ble_eq_true rfl) (ok_X3_takeNumber h32) rfl ?_
    refine aw_seq [(.istore_n 3, 1, ax0)] (pc' := 148) (L' := [some (aR 3 0 49), some (aI v1), some (aI r29), some (aI r34), some (aI (-1))]) (stk' := []) (σ' := σ33) (g := []) (by decide +kernel) rfl rfl ?_
    refine aw_goto (off := 22) (tgt := 170) (by decide +kernel) (by decide) ?_
    refine aw_forget (L' := [some (aR 3 0 49), some (aI v1), some (aI r29), some (aI r34), some (aI (-1))]) (lsub_s (lsub_s (lsub_s (lsub_s (lsub_s (lsub_0)))))) ?_
    exact ok_X3_readAct_170 v1 r29 r34 (-1) σ33 _ h
  rw [if_neg c1] at h
  refine awsw_cons (fun c1 => ?_) (fun c1 => ?_)
  · rw [if_pos c1] at h
    refine aw_forget (L' := [some (aR 3 0 49), some (aI v1), none, some (aI (-1)), some (aI (-1))]) (lsub_s (lsub_s (lsub_n (lsub_s (lsub_s (lsub_0)))))) ?_
    exact ok_X3_readAct_162 v1 (-1) (-1) σ _ h
  rw [if_neg c1] at h
  refine awsw_cons (fun c1 => ?_) (fun c1 => ?_)
  · rw [if_pos c1] at h
    refine aw_forget (L' := [some (aR 3 0 49), some (aI v1), none, some (aI (-1)), some (aI (-1))]) (lsub_s (lsub_s (lsub_n (lsub_s (lsub_s (lsub_0)))))) ?_
    exact ok_X3_readAct_162 v1 (-1) (-1) σ _ h
  rw [if_neg c1] at h
  refine awsw_cons (fun c1 => ?_) (fun c1 => ?_)
  · rw [if_pos c1] at h
    refine aw_seq [(.aload_n 0, 1, ax0), (.iconst 1, 1, (axI 1)), (.bipush 60, 2, (axI 60))] (pc' := 155) (L' := [some (aR 3 0 49), some (aI v1), some (aI (-1)), some (aI (-1)), some (aI (-1))]) (stk' := [aI 60, aI 1, aR 3 0 49]) (σ' := σ) (g := []) (by decide +kernel) rfl rfl ?_
    obtain ⟨r37, σ36, h35, h⟩ := bnd_some h
    refine aw_cV (P' := pX3_takeNumber) (idx := 117) (d' := 3) (c := 3) (n := 0) (k := 49) [aI 1, aI 60] [] (ov := (some (aI r37))) (stk2 := [aI r37]) okp_X3_takeNumber (by decide +kernel) ml_RX3_117 vok_X3_takeNumber (by decide) rfl nar_X3_takeNumber (by decide) rfl (Nat.le_of_ble_eq_true rfl) (ok_X3_takeNumber h35) rfl ?_
    refine aw_seq [(.istore_n 2, 1, ax0)] (pc' := 159) (L' := [some (aR 3 0 49), some (aI v1), some (aI r37), some (aI (-1)), some (aI (-1))]) (stk' := []) (σ' := σ36) (g := []) (by decide +kernel) rfl rfl ?_
    refine aw_goto (off := 11) (tgt := 170) (by decide +kernel) (by decide) ?_
    refine aw_forget (L' := [some (aR 3 0 49), some (aI v1), some (aI r37), some (aI (-1)), some (aI (-1))]) (lsub_s (lsub_s (lsub_s (lsub_s (lsub_s (lsub_0)))))) ?_
    exact ok_X3_readAct_170 v1 r37 (-1) (-1) σ36 _ h
  rw [if_neg c1] at h
  refine awsw_nil ?_
  refine aw_forget (L' := [some (aR 3 0 49), some (aI v1), none, some (aI (-1)), some (aI (-1))]) (lsub_s (lsub_s (lsub_n (lsub_s (lsub_s (lsub_0)))))) ?_
  exact ok_X3_readAct_162 v1 (-1) (-1) σ _ h
def f_X3_emit (v1 : Int32) (v2 : Int32) (σ : Sg) : Option (Int32 × Sg) :=
  if (σ.1 49 9) < 300 then (
    grd (inb (σ.1 49 9) 300 && true) <|
    ltσ (wI σ 55 (ix (σ.1 49 9)) v1) fun σ1 =>
    grd (inb (σ1.1 49 9) 300 && true) <|
    ltσ (wI σ1 56 (ix (σ1.1 49 9)) v2) fun σ3 =>
    ltσ (wI σ3 49 9 ((σ3.1 49 9) + 1)) fun σ5 =>
    some (((σ5.1 49 9) - 1), σ5)
  ) else (
    some ((-1), σ)
  )
set_option maxRecDepth 100000 in
set_option maxHeartbeats 4000000 in
theorem ok_X3_emit {κ : Kd} {v1 : Int32} {v2 : Int32} {σ : Sg} {q : (Int32 × Sg)} (h : f_X3_emit v1 v2 σ = some q) : AMet κ pX3_emit 1 [aR 3 0 49, aI v1, aI v2] σ (some (aI q.1), q.2) := by
  unfold f_X3_emit at h
  refine amet_of okp_X3_emit [(false, aR 3 0 49), (false, aI v1), (false, aI v2)] (List.forall_mem_cons.mpr ⟨rfl, List.forall_mem_cons.mpr ⟨rfl, List.forall_mem_cons.mpr ⟨rfl, (fun _ hn => absurd hn List.not_mem_nil)⟩⟩⟩) 0 rfl ?_
  show AW κ pX3_emit 1 (some (aI q.1), q.2) 0 [some (aR 3 0 49), some (aI v1), some (aI v2)] [] σ
  refine aw_seq [(.aload_n 0, 1, ax0), (.getfield 66, 3, (axF 3 9 (0, 0, 0, none))), (.aload_n 0, 1, ax0), (.getfield 24, 3, (axF 3 7 (2, 6, 13, some 300))), (.arraylength, 1, ax0)] (pc' := 9) (L' := [some (aR 3 0 49), some (aI v1), some (aI v2)]) (stk' := [aI 300, aI (σ.1 49 9)]) (σ' := σ) (g := []) (by decide +kernel) rfl rfl ?_
  refine aw_icmp_lt (off := 5) (tgt := 14) (by decide +kernel) (by decide) (fun c1 => ?_) (fun c1 => ?_)
  · rw [if_pos c1] at h
    obtain ⟨hg, h⟩ := grd_some h
    obtain ⟨σ1, e2, h⟩ := ltσ_some h
    refine aw_seq [(.aload_n 0, 1, ax0), (.getfield 24, 3, (axF 3 7 (2, 6, 13, some 300))), (.aload_n 0, 1, ax0), (.getfield 66, 3, (axF 3 9 (0, 0, 0, none))), (.iload_n 1, 1, ax0), (.iastore, 1, ax0)] (pc' := 24) (L' := [some (aR 3 0 49), some (aI v1), some (aI v2)]) (stk' := []) (σ' := σ1) (g := [inb (σ.1 49 9) 300]) (by decide +kernel) (by rw [e2]; rfl) hg ?_
    obtain ⟨hg, h⟩ := grd_some h
    obtain ⟨σ3, e4, h⟩ := ltσ_some h
    refine aw_seq [(.aload_n 0, 1, ax0), (.getfield 27, 3, (axF 3 8 (2, 7, 13, some 300))), (.aload_n 0, 1, ax0), (.getfield 66, 3, (axF 3 9 (0, 0, 0, none))), (.iload_n 2, 1, ax0), (.iastore, 1, ax0)] (pc' := 34) (L' := [some (aR 3 0 49), some (aI v1), some (aI v2)]) (stk' := []) (σ' := σ3) (g := [inb (σ1.1 49 9) 300]) (by decide +kernel) (by rw [e4]; rfl) hg ?_
    obtain ⟨σ5, e6, h⟩ := ltσ_some h
    refine aw_seq [(.aload_n 0, 1, ax0), (.dup, 1, ax0), (.getfield 66, 3, (axF 3 9 (0, 0, 0, none))), (.iconst 1, 1, (axI 1)), (.iadd, 1, ax0), (.putfield 66, 3, (axF 3 9 (0, 0, 0, none)))] (pc' := 44) (L' := [some (aR 3 0 49), some (aI v1), some (aI v2)]) (stk' := []) (σ' := σ5) (g := []) (by decide +kernel) (by rw [e6]; rfl) rfl ?_
    refine aw_seq [(.aload_n 0, 1, ax0), (.getfield 66, 3, (axF 3 9 (0, 0, 0, none))), (.iconst 1, 1, (axI 1)), (.isub, 1, ax0)] (pc' := 50) (L' := [some (aR 3 0 49), some (aI v1), some (aI v2)]) (stk' := [aI ((σ5.1 49 9) - 1)]) (σ' := σ5) (g := []) (by decide +kernel) rfl rfl ?_
    cases h
    exact aw_iret rfl (by decide +kernel)
  · rw [if_neg c1] at h
    refine aw_seq [(.iconst (-1), 1, (axI (-1)))] (pc' := 13) (L' := [some (aR 3 0 49), some (aI v1), some (aI v2)]) (stk' := [aI (-1)]) (σ' := σ) (g := []) (by decide +kernel) rfl rfl ?_
    cases h
    exact aw_iret rfl (by decide +kernel)
def f_X3_name_39    (σ : Sg) : Option Sg :=
  some σ
set_option maxRecDepth 100000 in
set_option maxHeartbeats 4000000 in
theorem ok_X3_name_39 {κ : Kd}    : ∀  (σ : Sg) (q : Sg), f_X3_name_39  σ = some q → AW κ pX3_name 3 (none, q) 39 [none, none] [] σ := by
  intro  σ q h
  unfold f_X3_name_39 at h
  cases h
  exact aw_vret rfl (by decide +kernel)
def f_X3_name_22   (v1 : Int32) (σ : Sg) : Option Sg :=
  ltσ (wI σ 49 4 ((σ.1 49 4) + 1)) fun σ1 =>
  bnd (f_X3_emit v1 0 σ1) fun r5 σ4 =>
  f_X3_name_39 σ4
set_option maxRecDepth 100000 in
set_option maxHeartbeats 4000000 in
theorem ok_X3_name_22 {κ : Kd}    : ∀ (v1 : Int32) (σ : Sg) (q : Sg), f_X3_name_22 v1 σ = some q → AW κ pX3_name 3 (none, q) 22 [some (aR 3 0 49), some (aI v1)] [] σ := by
  intro v1 σ q h
  unfold f_X3_name_22 at h
  obtain ⟨σ1, e2, h⟩ := ltσ_some h
  refine aw_seq [(.aload_n 0, 1, ax0), (.dup, 1, ax0), (.getfield 43, 3, (axF 3 4 (0, 0, 0, none))), (.iconst 1, 1, (axI 1)), (.iadd, 1, ax0), (.putfield 43, 3, (axF 3 4 (0, 0, 0, none)))] (pc' := 32) (L' := [some (aR 3 0 49), some (aI v1)]) (stk' := []) (σ' := σ1) (g := []) (by decide +kernel) (by rw [e2]; rfl) rfl ?_
  refine aw_seq [(.aload_n 0, 1, ax0), (.iload_n 1, 1, ax0), (.iconst 0, 1, (axI 0))] (pc' := 35) (L' := [some (aR 3 0 49), some (aI v1)]) (stk' := [aI 0, aI v1, aR 3 0 49]) (σ' := σ1) (g := []) (by decide +kernel) rfl rfl ?_
  obtain ⟨r5, σ4, h3, h⟩ := bnd_some h
  refine aw_cV (P' := pX3_emit) (idx := 124) (d' := 1) (c := 3) (n := 0) (k := 49) [aI v1, aI 0] [] (ov := (some (aI r5))) (stk2 := [aI r5]) okp_X3_emit (by decide +kernel) ml_RX3_124 vok_X3_emit (by decide) rfl nar_X3_emit (by decide) rfl (Nat.le_of_ble_eq_true rfl) (ok_X3_emit h3) rfl ?_
  refine aw_seq [(.pop, 1, ax0)] (pc' := 39) (L' := [some (aR 3 0 49), some (aI v1)]) (stk' := []) (σ' := σ4) (g := []) (by decide +kernel) rfl rfl ?_
  refine aw_forget (L' := [none, none]) (lsub_n (lsub_n (lsub_0))) ?_
  exact ok_X3_name_39 σ4 _ h
def f_X3_name (v1 : Int32) (σ : Sg) : Option Sg :=
  if v1 = 19 then (
    if (σ.1 49 12) = 2 then (
      f_X3_name_22 v1 σ
    ) else (
      bndV (f_X3_fail 5 σ) fun σ7 =>
      f_X3_name_39 σ7
    )
  ) else (
    f_X3_name_22 v1 σ
  )
set_option maxRecDepth 100000 in
set_option maxHeartbeats 4000000 in
theorem ok_X3_name {κ : Kd} {v1 : Int32} {σ : Sg} {q : Sg} (h : f_X3_name v1 σ = some q) : AMet κ pX3_name 3 [aR 3 0 49, aI v1] σ (none, q) := by
  unfold f_X3_name at h
  refine amet_of okp_X3_name [(false, aR 3 0 49), (false, aI v1)] (List.forall_mem_cons.mpr ⟨rfl, List.forall_mem_cons.mpr ⟨rfl, (fun _ hn => absurd hn List.not_mem_nil)⟩⟩) 0 rfl ?_
  show AW κ pX3_name 3 (none, q) 0 [some (aR 3 0 49), some (aI v1)] [] σ
  refine aw_seq [(.iload_n 1, 1, ax0), (.bipush 19, 2, (axI 19))] (pc' := 3) (L' := [some (aR 3 0 49), some (aI v1)]) (stk' := [aI 19, aI v1]) (σ' := σ) (g := []) (by decide +kernel) rfl rfl ?_
  refine aw_icmp_ne (off := 19) (tgt := 22) (by decide +kernel) (by decide) (fun c1 => ?_) (fun c1 => ?_)
  · rw [if_neg c1] at h
    refine aw_forget (L' := [some (aR 3 0 49), some (aI v1)]) (lsub_s (lsub_s (lsub_0))) ?_
    exact ok_X3_name_22 v1 σ _ h
  · rw [if_pos c1] at h
    refine aw_seq [(.aload_n 0, 1, ax0), (.getfield 101, 3, (axF 3 12 (0, 0, 0, none))), (.iconst 2, 1, (axI 2))] (pc' := 11) (L' := [some (aR 3 0 49), some (aI v1)]) (stk' := [aI 2, aI (σ.1 49 12)]) (σ' := σ) (g := []) (by decide +kernel) rfl rfl ?_
    refine aw_icmp_eq (off := 11) (tgt := 22) (by decide +kernel) (by decide) (fun c1 => ?_) (fun c1 => ?_)
    · rw [if_pos c1] at h
      refine aw_forget (L' := [some (aR 3 0 49), some (aI v1)]) (lsub_s (lsub_s (lsub_0))) ?_
      exact ok_X3_name_22 v1 σ _ h
    · rw [if_neg c1] at h
      refine aw_seq [(.aload_n 0, 1, ax0), (.iconst 5, 1, (axI 5))] (pc' := 16) (L' := [some (aR 3 0 49), some (aI v1)]) (stk' := [aI 5, aR 3 0 49]) (σ' := σ) (g := []) (by decide +kernel) rfl rfl ?_
      obtain ⟨σ7, h6, h⟩ := bndV_some h
      refine aw_cV (P' := pX3_fail) (idx := 90) (d' := 2) (c := 3) (n := 0) (k := 49) [aI 5] [] (ov := none) (stk2 := []) okp_X3_fail (by decide +kernel) ml_RX3_90 vok_X3_fail (by decide) rfl nar_X3_fail (by decide) rfl (Nat.le_of_ble_eq_true rfl) (ok_X3_fail h6) rfl ?_
      refine aw_goto (off := 20) (tgt := 39) (by decide +kernel) (by decide) ?_
      refine aw_forget (L' := [none, none]) (lsub_n (lsub_n (lsub_0))) ?_
      exact ok_X3_name_39 σ7 _ h
def f_X3_leadHere_25    (σ : Sg) : Option Sg :=
  some σ
set_option maxRecDepth 100000 in
set_option maxHeartbeats 4000000 in
theorem ok_X3_leadHere_25 {κ : Kd}    : ∀  (σ : Sg) (q : Sg), f_X3_leadHere_25  σ = some q → AW κ pX3_leadHere 2 (none, q) 25 [none, none] [] σ := by
  intro  σ q h
  unfold f_X3_leadHere_25 at h
  cases h
  exact aw_vret rfl (by decide +kernel)
def f_X3_leadHere (v1 : Int32) (σ : Sg) : Option Sg :=
  bnd (f_X11_within v1 0 (300 - 1) σ) fun r3 σ2 =>
  if r3 = 0 then (
    f_X3_leadHere_25 σ2
  ) else (
    grd (inb v1 300 && true) <|
    ltσ (wI σ2 56 (ix v1) (σ2.1 49 9)) fun σ4 =>
    f_X3_leadHere_25 σ4
  )
set_option maxRecDepth 100000 in
set_option maxHeartbeats 4000000 in
theorem ok_X3_leadHere {κ : Kd} {v1 : Int32} {σ : Sg} {q : Sg} (h : f_X3_leadHere v1 σ = some q) : AMet κ pX3_leadHere 2 [aR 3 0 49, aI v1] σ (none, q) := by
  unfold f_X3_leadHere at h
  refine amet_of okp_X3_leadHere [(false, aR 3 0 49), (false, aI v1)] (List.forall_mem_cons.mpr ⟨rfl, List.forall_mem_cons.mpr ⟨rfl, (fun _ hn => absurd hn List.not_mem_nil)⟩⟩) 0 rfl ?_
  show AW κ pX3_leadHere 2 (none, q) 0 [some (aR 3 0 49), some (aI v1)] [] σ
  refine aw_seq [(.iload_n 1, 1, ax0), (.iconst 0, 1, (axI 0)), (.aload_n 0, 1, ax0), (.getfield 27, 3, (axF 3 8 (2, 7, 13, some 300))), (.arraylength, 1, ax0), (.iconst 1, 1, (axI 1)), (.isub, 1, ax0)] (pc' := 9) (L' := [some (aR 3 0 49), some (aI v1)]) (stk' := [aI (300 - 1), aI 0, aI v1]) (σ' := σ) (g := []) (by decide +kernel) rfl rfl ?_
  obtain ⟨r3, σ2, h1, h⟩ := bnd_some h
  refine aw_cSN (P' := pX11_within) (idx := 97) (d' := 1) [aI v1, aI 0, aI (300 - 1)] [] (ov := (some (aI r3))) (stk2 := [aI r3]) okp_X11_within (by decide +kernel) ml_RX3_97 tok_X11_within nar_X11_within (by decide) rfl (Nat.le_of_ble_eq_true rfl) (ok_X11_within h1) rfl ?_
  refine aw_if_eq (off := 13) (tgt := 25) (by decide +kernel) (by decide) (fun c1 => ?_) (fun c1 => ?_)
  · rw [if_pos c1] at h
    refine aw_forget (L' := [none, none]) (lsub_n (lsub_n (lsub_0))) ?_
    exact ok_X3_leadHere_25 σ2 _ h
  · rw [if_neg c1] at h
    obtain ⟨hg, h⟩ := grd_some h
    obtain ⟨σ4, e5, h⟩ := ltσ_some h
    refine aw_seq [(.aload_n 0, 1, ax0), (.getfield 27, 3, (axF 3 8 (2, 7, 13, some 300))), (.iload_n 1, 1, ax0), (.aload_n 0, 1, ax0), (.getfield 66, 3, (axF 3 9 (0, 0, 0, none))), (.iastore, 1, ax0)] (pc' := 25) (L' := [some (aR 3 0 49), some (aI v1)]) (stk' := []) (σ' := σ4) (g := [inb v1 300]) (by decide +kernel) (by rw [e5]; rfl) hg ?_
    refine aw_forget (L' := [none, none]) (lsub_n (lsub_n (lsub_0))) ?_
    exact ok_X3_leadHere_25 σ4 _ h
