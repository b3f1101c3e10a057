/-! printed by wip/whole/gen4.py from the class file: summedUp, says, nearOf, name, coolsOf, spreadsOf, fineOf, write, anew, drawn, isAlight, cool, live, pass, keep, undo, lightNow, isSo -/
def f_X12_summedUp_431  (rec_38 : Int32 → Int32 → Int32 → Int32 → Int32 → Sg → Option (Int64 × Sg)) (v3 : Int32) (v4 : Int32) (v5 : Int32) (v6 : Int32) (v7 : Int32) (σ : Sg) : Option (Int64 × Sg) :=
  rec_38 v3 v4 v5 v6 (v7 + 1) σ
set_option maxRecDepth 100000 in
set_option maxHeartbeats 4000000 in
theorem ok_X12_summedUp_431 {κ : Kd}   {rec_38 : Int32 → Int32 → Int32 → Int32 → Int32 → Sg → Option (Int64 × Sg)} (hrec_38 : ∀ (v3 : Int32) (v4 : Int32) (v5 : Int32) (v6 : Int32) (v7 : Int32) (σ : Sg) (q : (Int64 × Sg)), rec_38 v3 v4 v5 v6 v7 σ = some q → AW κ pX12_summedUp 3 (some (aL q.1), q.2) 38 [some (aR 12 0 0), none, none, some (aI v3), some (aI v4), some (aI v5), some (aI v6), some (aI v7), none, none] [] σ) : ∀ (v3 : Int32) (v4 : Int32) (v5 : Int32) (v6 : Int32) (v7 : Int32) (σ : Sg) (q : (Int64 × Sg)), f_X12_summedUp_431 rec_38 v3 v4 v5 v6 v7 σ = some q → AW κ pX12_summedUp 3 (some (aL q.1), q.2) 431 [some (aR 12 0 0), none, none, some (aI v3), some (aI v4), some (aI v5), some (aI v6), some (aI v7), none, none] [] σ := by
  intro v3 v4 v5 v6 v7 σ q h
  unfold f_X12_summedUp_431 at h
  refine aw_seq [(.iinc 7 1, 3, (axI 1))] (pc' := 434) (L' := [some (aR 12 0 0), none, none, some (aI v3), some (aI v4), some (aI v5), some (aI v6), some (aI (v7 + 1)), none, none]) (stk' := []) (σ' := σ) (g := []) (by decide +kernel) rfl rfl ?_
  refine aw_goto (off := (-396)) (tgt := 38) (by decide +kernel) (by decide) ?_
  refine aw_forget (L' := [some (aR 12 0 0), none, none, some (aI v3), some (aI v4), some (aI v5), some (aI v6), some (aI (v7 + 1)), none, none]) (lsub_s (lsub_n (lsub_n (lsub_s (lsub_s (lsub_s (lsub_s (lsub_s (lsub_n (lsub_n (lsub_0))))))))))) ?_
  exact hrec_38 v3 v4 v5 v6 (v7 + 1) σ _ h
def f_X12_summedUp_112  (rec_38 : Int32 → Int32 → Int32 → Int32 → Int32 → Sg → Option (Int64 × Sg)) (v3 : Int32) (v4 : Int32) (v5 : Int32) (v6 : Int32) (v7 : Int32) (s1 : Int32) (s2 : Int64) (σ : Sg) : Option (Int64 × Sg) :=
  grd (inb s1 330 && true) <|
  ltσ (wL σ 7 (ix s1) s2) fun σ1 =>
  f_X12_summedUp_431 rec_38 v3 v4 (v5 + 1) v6 v7 σ1
set_option maxRecDepth 100000 in
set_option maxHeartbeats 4000000 in
theorem ok_X12_summedUp_112 {κ : Kd}   {rec_38 : Int32 → Int32 → Int32 → Int32 → Int32 → Sg → Option (Int64 × Sg)} (hrec_38 : ∀ (v3 : Int32) (v4 : Int32) (v5 : Int32) (v6 : Int32) (v7 : Int32) (σ : Sg) (q : (Int64 × Sg)), rec_38 v3 v4 v5 v6 v7 σ = some q → AW κ pX12_summedUp 3 (some (aL q.1), q.2) 38 [some (aR 12 0 0), none, none, some (aI v3), some (aI v4), some (aI v5), some (aI v6), some (aI v7), none, none] [] σ) : ∀ (v3 : Int32) (v4 : Int32) (v5 : Int32) (v6 : Int32) (v7 : Int32) (s1 : Int32) (s2 : Int64) (σ : Sg) (q : (Int64 × Sg)), f_X12_summedUp_112 rec_38 v3 v4 v5 v6 v7 s1 s2 σ = some q → AW κ pX12_summedUp 3 (some (aL q.1), q.2) 112 [some (aR 12 0 0), none, none, some (aI v3), some (aI v4), some (aI v5), some (aI v6), some (aI v7), none, none] [aL s2, aI s1, aR 14 330 7] σ := by
  intro v3 v4 v5 v6 v7 s1 s2 σ q h
  unfold f_X12_summedUp_112 at h
  obtain ⟨hg, h⟩ := grd_some h
  obtain ⟨σ1, e2, h⟩ := ltσ_some h
  refine aw_seq [(.lastore, 1, ax0)] (pc' := 113) (L' := [some (aR 12 0 0), none, none, some (aI v3), some (aI v4), some (aI v5), some (aI v6), some (aI v7), none, none]) (stk' := []) (σ' := σ1) (g := [inb s1 330]) (by decide +kernel) (by rw [e2]; rfl) hg ?_
  refine aw_seq [(.iinc 5 1, 3, (axI 1))] (pc' := 116) (L' := [some (aR 12 0 0), none, none, some (aI v3), some (aI v4), some (aI (v5 + 1)), some (aI v6), some (aI v7), none, none]) (stk' := []) (σ' := σ1) (g := []) (by decide +kernel) rfl rfl ?_
  refine aw_goto (off := 315) (tgt := 431) (by decide +kernel) (by decide) ?_
  refine aw_forget (L' := [some (aR 12 0 0), none, none, some (aI v3), some (aI v4), some (aI (v5 + 1)), some (aI v6), some (aI v7), none, none]) (lsub_s (lsub_n (lsub_n (lsub_s (lsub_s (lsub_s (lsub_s (lsub_s (lsub_n (lsub_n (lsub_0))))))))))) ?_
  exact ok_X12_summedUp_431 hrec_38 v3 v4 (v5 + 1) v6 v7 σ1 _ h
def f_X12_summedUp_206  (rec_38 : Int32 → Int32 → Int32 → Int32 → Int32 → Sg → Option (Int64 × Sg)) (v3 : Int32) (v4 : Int32) (v5 : Int32) (v6 : Int32) (v7 : Int32) (s1 : Int32) (s2 : Int64) (σ : Sg) : Option (Int64 × Sg) :=
  grd (inb s1 330 && true) <|
  ltσ (wL σ 7 (ix s1) s2) fun σ3 =>
  f_X12_summedUp_431 rec_38 v3 v4 v5 v6 v7 σ3
set_option maxRecDepth 100000 in
set_option maxHeartbeats 4000000 in
theorem ok_X12_summedUp_206 {κ : Kd}   {rec_38 : Int32 → Int32 → Int32 → Int32 → Int32 → Sg → Option (Int64 × Sg)} (hrec_38 : ∀ (v3 : Int32) (v4 : Int32) (v5 : Int32) (v6 : Int32) (v7 : Int32) (σ : Sg) (q : (Int64 × Sg)), rec_38 v3 v4 v5 v6 v7 σ = some q → AW κ pX12_summedUp 3 (some (aL q.1), q.2) 38 [some (aR 12 0 0), none, none, some (aI v3), some (aI v4), some (aI v5), some (aI v6), some (aI v7), none, none] [] σ) : ∀ (v3 : Int32) (v4 : Int32) (v5 : Int32) (v6 : Int32) (v7 : Int32) (s1 : Int32) (s2 : Int64) (σ : Sg) (q : (Int64 × Sg)), f_X12_summedUp_206 rec_38 v3 v4 v5 v6 v7 s1 s2 σ = some q → AW κ pX12_summedUp 3 (some (aL q.1), q.2) 206 [some (aR 12 0 0), none, none, some (aI v3), some (aI v4), some (aI v5), some (aI v6), some (aI v7), none, none] [aL s2, aI s1, aR 14 330 7] σ := by
  intro v3 v4 v5 v6 v7 s1 s2 σ q h
  unfold f_X12_summedUp_206 at h
  obtain ⟨hg, h⟩ := grd_some h
  obtain ⟨σ3, e4, h⟩ := ltσ_some h
  refine aw_seq [(.lastore, 1, ax0)] (pc' := 207) (L' := [some (aR 12 0 0), none, none, some (aI v3), some (aI v4), some (aI v5), some (aI v6), some (aI v7), none, none]) (stk' := []) (σ' := σ3) (g := [inb s1 330]) (by decide +kernel) (by rw [e4]; rfl) hg ?_
  refine aw_goto (off := 224) (tgt := 431) (by decide +kernel) (by decide) ?_
  refine aw_forget (L' := [some (aR 12 0 0), none, none, some (aI v3), some (aI v4), some (aI v5), some (aI v6), some (aI v7), none, none]) (lsub_s (lsub_n (lsub_n (lsub_s (lsub_s (lsub_s (lsub_s (lsub_s (lsub_n (lsub_n (lsub_0))))))))))) ?_
  exact ok_X12_summedUp_431 hrec_38 v3 v4 v5 v6 v7 σ3 _ h
def f_X12_summedUp_355  (rec_38 : Int32 → Int32 → Int32 → Int32 → Int32 → Sg → Option (Int64 × Sg)) (v3 : Int32) (v4 : Int32) (v5 : Int32) (v6 : Int32) (v7 : Int32) (s1 : Int32) (s2 : Int32) (σ : Sg) : Option (Int64 × Sg) :=
  grd ((inb s1 330 && bz s2) && true) <|
  ltσ (wI σ 8 (ix s1) s2) fun σ5 =>
  f_X12_summedUp_431 rec_38 v3 v4 v5 (v6 + 1) v7 σ5
set_option maxRecDepth 100000 in
set_option maxHeartbeats 4000000 in
theorem ok_X12_summedUp_355 {κ : Kd}   {rec_38 : Int32 → Int32 → Int32 → Int32 → Int32 → Sg → Option (Int64 × Sg)} (hrec_38 : ∀ (v3 : Int32) (v4 : Int32) (v5 : Int32) (v6 : Int32) (v7 : Int32) (σ : Sg) (q : (Int64 × Sg)), rec_38 v3 v4 v5 v6 v7 σ = some q → AW κ pX12_summedUp 3 (some (aL q.1), q.2) 38 [some (aR 12 0 0), none, none, some (aI v3), some (aI v4), some (aI v5), some (aI v6), some (aI v7), none, none] [] σ) : ∀ (v3 : Int32) (v4 : Int32) (v5 : Int32) (v6 : Int32) (v7 : Int32) (s1 : Int32) (s2 : Int32) (σ : Sg) (q : (Int64 × Sg)), f_X12_summedUp_355 rec_38 v3 v4 v5 v6 v7 s1 s2 σ = some q → AW κ pX12_summedUp 3 (some (aL q.1), q.2) 355 [some (aR 12 0 0), none, none, some (aI v3), some (aI v4), some (aI v5), some (aI v6), some (aI v7), none, none] [aI s2, aI s1, aR 15 330 8] σ := by
  intro v3 v4 v5 v6 v7 s1 s2 σ q h
  unfold f_X12_summedUp_355 at h
  obtain ⟨hg, h⟩ := grd_some h
  obtain ⟨σ5, e6, h⟩ := ltσ_some h
  refine aw_seq [(.bastore, 1, ax0)] (pc' := 356) (L' := [some (aR 12 0 0), none, none, some (aI v3), some (aI v4), some (aI v5), some (aI v6), some (aI v7), none, none]) (stk' := []) (σ' := σ5) (g := [(inb s1 330 && bz s2)]) (by decide +kernel) (by rw [e6]; rfl) hg ?_
  refine aw_seq [(.iinc 6 1, 3, (axI 1))] (pc' := 359) (L' := [some (aR 12 0 0), none, none, some (aI v3), some (aI v4), some (aI v5), some (aI (v6 + 1)), some (aI v7), none, none]) (stk' := []) (σ' := σ5) (g := []) (by decide +kernel) rfl rfl ?_
  refine aw_goto (off := 72) (tgt := 431) (by decide +kernel) (by decide) ?_
  refine aw_forget (L' := [some (aR 12 0 0), none, none, some (aI v3), some (aI v4), some (aI v5), some (aI (v6 + 1)), some (aI v7), none, none]) (lsub_s (lsub_n (lsub_n (lsub_s (lsub_s (lsub_s (lsub_s (lsub_s (lsub_n (lsub_n (lsub_0))))))))))) ?_
  exact ok_X12_summedUp_431 hrec_38 v3 v4 v5 (v6 + 1) v7 σ5 _ h
def f_X12_summedUp_323  (rec_38 : Int32 → Int32 → Int32 → Int32 → Int32 → Sg → Option (Int64 × Sg)) (v3 : Int32) (v4 : Int32) (v5 : Int32) (v6 : Int32) (v7 : Int32) (s1 : Int32) (s2 : Int32) (s3 : Int32) (σ : Sg) : Option (Int64 × Sg) :=
  if s2 = s3 then (
    f_X12_summedUp_355 rec_38 v3 v4 v5 v6 v7 s1 1 σ
  ) else (
    f_X12_summedUp_355 rec_38 v3 v4 v5 v6 v7 s1 0 σ
  )
set_option maxRecDepth 100000 in
set_option maxHeartbeats 4000000 in
theorem ok_X12_summedUp_323 {κ : Kd}   {rec_38 : Int32 → Int32 → Int32 → Int32 → Int32 → Sg → Option (Int64 × Sg)} (hrec_38 : ∀ (v3 : Int32) (v4 : Int32) (v5 : Int32) (v6 : Int32) (v7 : Int32) (σ : Sg) (q : (Int64 × Sg)), rec_38 v3 v4 v5 v6 v7 σ = some q → AW κ pX12_summedUp 3 (some (aL q.1), q.2) 38 [some (aR 12 0 0), none, none, some (aI v3), some (aI v4), some (aI v5), some (aI v6), some (aI v7), none, none] [] σ) : ∀ (v3 : Int32) (v4 : Int32) (v5 : Int32) (v6 : Int32) (v7 : Int32) (s1 : Int32) (s2 : Int32) (s3 : Int32) (σ : Sg) (q : (Int64 × Sg)), f_X12_summedUp_323 rec_38 v3 v4 v5 v6 v7 s1 s2 s3 σ = some q → AW κ pX12_summedUp 3 (some (aL q.1), q.2) 323 [some (aR 12 0 0), none, none, some (aI v3), some (aI v4), some (aI v5), some (aI v6), some (aI v7), none, none] [aI s3, aI s2, aI s1, aR 15 330 8] σ := by
  intro v3 v4 v5 v6 v7 s1 s2 s3 σ q h
  unfold f_X12_summedUp_323 at h
  refine aw_icmp_ne (off := 7) (tgt := 330) (by decide +kernel) (by decide) (fun c1 => ?_) (fun c1 => ?_)
  · rw [if_neg c1] at h
    refine aw_seq [(.iconst 0, 1, (axI 0))] (pc' := 331) (L' := [some (aR 12 0 0), none, none, some (aI v3), some (aI v4), some (aI v5), some (aI v6), some (aI v7), none, none]) (stk' := [aI 0, aI s1, aR 15 330 8]) (σ' := σ) (g := []) (by decide +kernel) rfl rfl ?_
    refine aw_goto (off := 24) (tgt := 355) (by decide +kernel) (by decide) ?_
    refine aw_forget (L' := [some (aR 12 0 0), none, none, some (aI v3), some (aI v4), some (aI v5), some (aI v6), some (aI v7), none, none]) (lsub_s (lsub_n (lsub_n (lsub_s (lsub_s (lsub_s (lsub_s (lsub_s (lsub_n (lsub_n (lsub_0))))))))))) ?_
    exact ok_X12_summedUp_355 hrec_38 v3 v4 v5 v6 v7 s1 0 σ _ h
  · rw [if_pos c1] at h
    refine aw_seq [(.iconst 1, 1, (axI 1))] (pc' := 327) (L' := [some (aR 12 0 0), none, none, some (aI v3), some (aI v4), some (aI v5), some (aI v6), some (aI v7), none, none]) (stk' := [aI 1, aI s1, aR 15 330 8]) (σ' := σ) (g := []) (by decide +kernel) rfl rfl ?_
    refine aw_goto (off := 28) (tgt := 355) (by decide +kernel) (by decide) ?_
    refine aw_forget (L' := [some (aR 12 0 0), none, none, some (aI v3), some (aI v4), some (aI v5), some (aI v6), some (aI v7), none, none]) (lsub_s (lsub_n (lsub_n (lsub_s (lsub_s (lsub_s (lsub_s (lsub_s (lsub_n (lsub_n (lsub_0))))))))))) ?_
    exact ok_X12_summedUp_355 hrec_38 v3 v4 v5 v6 v7 s1 1 σ _ h
def f_X12_summedUp_311  (rec_38 : Int32 → Int32 → Int32 → Int32 → Int32 → Sg → Option (Int64 × Sg)) (v3 : Int32) (v4 : Int32) (v5 : Int32) (v6 : Int32) (v7 : Int32) (v8 : Int32) (s1 : Int32) (s2 : Int32) (σ : Sg) : Option (Int64 × Sg) :=
  if v8 = 17 then (
    f_X12_summedUp_323 rec_38 v3 v4 v5 v6 v7 s1 s2 1 σ
  ) else (
    f_X12_summedUp_323 rec_38 v3 v4 v5 v6 v7 s1 s2 0 σ
  )
set_option maxRecDepth 100000 in
set_option maxHeartbeats 4000000 in
theorem ok_X12_summedUp_311 {κ : Kd}   {rec_38 : Int32 → Int32 → Int32 → Int32 → Int32 → Sg → Option (Int64 × Sg)} (hrec_38 : ∀ (v3 : Int32) (v4 : Int32) (v5 : Int32) (v6 : Int32) (v7 : Int32) (σ : Sg) (q : (Int64 × Sg)), rec_38 v3 v4 v5 v6 v7 σ = some q → AW κ pX12_summedUp 3 (some (aL q.1), q.2) 38 [some (aR 12 0 0), none, none, some (aI v3), some (aI v4), some (aI v5), some (aI v6), some (aI v7), none, none] [] σ) : ∀ (v3 : Int32) (v4 : Int32) (v5 : Int32) (v6 : Int32) (v7 : Int32) (v8 : Int32) (s1 : Int32) (s2 : Int32) (σ : Sg) (q : (Int64 × Sg)), f_X12_summedUp_311 rec_38 v3 v4 v5 v6 v7 v8 s1 s2 σ = some q → AW κ pX12_summedUp 3 (some (aL q.1), q.2) 311 [some (aR 12 0 0), none, none, some (aI v3), some (aI v4), some (aI v5), some (aI v6), some (aI v7), some (aI v8), none] [aI s2, aI s1, aR 15 330 8] σ := by
  intro v3 v4 v5 v6 v7 v8 s1 s2 σ q h
  unfold f_X12_summedUp_311 at h
  refine aw_seq [(.iload 8, 2, ax0), (.bipush 17, 2, (axI 17))] (pc' := 315) (L' := [some (aR 12 0 0), none, none, some (aI v3), some (aI v4), some (aI v5), some (aI v6), some (aI v7), some (aI v8), none]) (stk' := [aI 17, aI v8, aI s2, aI s1, aR 15 330 8]) (σ' := σ) (g := []) (by decide +kernel) rfl rfl ?_
  refine aw_icmp_ne (off := 7) (tgt := 322) (by decide +kernel) (by decide) (fun c1 => ?_) (fun c1 => ?_)
  · rw [if_neg c1] at h
    refine aw_seq [(.iconst 0, 1, (axI 0))] (pc' := 323) (L' := [some (aR 12 0 0), none, none, some (aI v3), some (aI v4), some (aI v5), some (aI v6), some (aI v7), some (aI v8), none]) (stk' := [aI 0, aI s2, aI s1, aR 15 330 8]) (σ' := σ) (g := []) (by decide +kernel) rfl rfl ?_
    refine aw_forget (L' := [some (aR 12 0 0), none, none, some (aI v3), some (aI v4), some (aI v5), some (aI v6), some (aI v7), none, none]) (lsub_s (lsub_n (lsub_n (lsub_s (lsub_s (lsub_s (lsub_s (lsub_s (lsub_n (lsub_n (lsub_0))))))))))) ?_
    exact ok_X12_summedUp_323 hrec_38 v3 v4 v5 v6 v7 s1 s2 0 σ _ h
  · rw [if_pos c1] at h
    refine aw_seq [(.iconst 1, 1, (axI 1))] (pc' := 319) (L' := [some (aR 12 0 0), none, none, some (aI v3), some (aI v4), some (aI v5), some (aI v6), some (aI v7), some (aI v8), none]) (stk' := [aI 1, aI s2, aI s1, aR 15 330 8]) (σ' := σ) (g := []) (by decide +kernel) rfl rfl ?_
    refine aw_goto (off := 4) (tgt := 323) (by decide +kernel) (by decide) ?_
    refine aw_forget (L' := [some (aR 12 0 0), none, none, some (aI v3), some (aI v4), some (aI v5), some (aI v6), some (aI v7), none, none]) (lsub_s (lsub_n (lsub_n (lsub_s (lsub_s (lsub_s (lsub_s (lsub_s (lsub_n (lsub_n (lsub_0))))))))))) ?_
    exact ok_X12_summedUp_323 hrec_38 v3 v4 v5 v6 v7 s1 s2 1 σ _ h
def f_X12_summedUp_274  (rec_38 : Int32 → Int32 → Int32 → Int32 → Int32 → Sg → Option (Int64 × Sg)) (v3 : Int32) (v4 : Int32) (v6 : Int32) (v7 : Int32) (v8 : Int32) (s0 : Int32) (s1 : Int32) (σ : Sg) : Option (Int64 × Sg) :=
  if v8 < 16 then (
    grd (inb (s0 - s1) 330 && (inb ((s0 - s1) + 1) 330 && true)) <|
    bnd (f_X12_isAsked v8 (σ.2.1 7 (ix (s0 - s1))) (σ.2.1 7 (ix ((s0 - s1) + 1))) σ) fun r9 σ8 =>
    f_X12_summedUp_355 rec_38 v3 v4 (s0 - s1) v6 v7 v6 r9 σ8
  ) else (
    grd (inb (s0 - s1) 330 && ((!decide ((2 : Int64) = 0)) && true)) <|
    if (lg_cmp (jlrem (σ.2.1 7 (ix (s0 - s1))) 2) 0) = 0 then (
      f_X12_summedUp_311 rec_38 v3 v4 (s0 - s1) v6 v7 v8 v6 1 σ
    ) else (
      f_X12_summedUp_311 rec_38 v3 v4 (s0 - s1) v6 v7 v8 v6 0 σ
    )
  )
set_option maxRecDepth 100000 in
set_option maxHeartbeats 4000000 in
theorem ok_X12_summedUp_274 {κ : Kd}   {rec_38 : Int32 → Int32 → Int32 → Int32 → Int32 → Sg → Option (Int64 × Sg)} (hrec_38 : ∀ (v3 : Int32) (v4 : Int32) (v5 : Int32) (v6 : Int32) (v7 : Int32) (σ : Sg) (q : (Int64 × Sg)), rec_38 v3 v4 v5 v6 v7 σ = some q → AW κ pX12_summedUp 3 (some (aL q.1), q.2) 38 [some (aR 12 0 0), none, none, some (aI v3), some (aI v4), some (aI v5), some (aI v6), some (aI v7), none, none] [] σ) : ∀ (v3 : Int32) (v4 : Int32) (v6 : Int32) (v7 : Int32) (v8 : Int32) (s0 : Int32) (s1 : Int32) (σ : Sg) (q : (Int64 × Sg)), f_X12_summedUp_274 rec_38 v3 v4 v6 v7 v8 s0 s1 σ = some q → AW κ pX12_summedUp 3 (some (aL q.1), q.2) 274 [some (aR 12 0 0), none, none, some (aI v3), some (aI v4), none, some (aI v6), some (aI v7), some (aI v8), none] [aI s1, aI s0] σ := by
  intro v3 v4 v6 v7 v8 s0 s1 σ q h
  unfold f_X12_summedUp_274 at h
  refine aw_seq [(.isub, 1, ax0), (.istore 5, 2, ax0), (.aload_n 0, 1, ax0), (.getfield 39, 3, (axF 12 22 (2, 8, 15, some 330))), (.iload 6, 2, ax0), (.iload 8, 2, ax0), (.bipush 16, 2, (axI 16))] (pc' := 287) (L' := [some (aR 12 0 0), none, none, some (aI v3), some (aI v4), some (aI (s0 - s1)), some (aI v6), some (aI v7), some (aI v8), none]) (stk' := [aI 16, aI v8, aI v6, aR 15 330 8]) (σ' := σ) (g := []) (by decide +kernel) rfl rfl ?_
  refine aw_icmp_lt (off := 47) (tgt := 334) (by decide +kernel) (by decide) (fun c1 => ?_) (fun c1 => ?_)
  · rw [if_pos c1] at h
    obtain ⟨hg, h⟩ := grd_some h
    refine aw_seq [(.iload 8, 2, ax0), (.aload_n 0, 1, ax0), (.getfield 35, 3, (axF 12 21 (2, 7, 14, some 330))), (.iload 5, 2, ax0), (.laload, 1, ax0), (.aload_n 0, 1, ax0), (.getfield 35, 3, (axF 12 21 (2, 7, 14, some 330))), (.iload 5, 2, ax0), (.iconst 1, 1, (axI 1)), (.iadd, 1, ax0), (.laload, 1, ax0)] (pc' := 352) (L' := [some (aR 12 0 0), none, none, some (aI v3), some (aI v4), some (aI (s0 - s1)), some (aI v6), some (aI v7), some (aI v8), none]) (stk' := [aL (σ.2.1 7 (ix ((s0 - s1) + 1))), aL (σ.2.1 7 (ix (s0 - s1))), aI v8, aI v6, aR 15 330 8]) (σ' := σ) (g := [inb (s0 - s1) 330, inb ((s0 - s1) + 1) 330]) (by decide +kernel) rfl hg ?_
    obtain ⟨r9, σ8, h7, h⟩ := bnd_some h
    refine aw_cS (P' := pX12_isAsked) (idx := 280) (d' := 1) [aI v8, aL (σ.2.1 7 (ix (s0 - s1))), aL (σ.2.1 7 (ix ((s0 - s1) + 1)))] [aI v6, aR 15 330 8] (ov := (some (aI r9))) (stk2 := [aI r9, aI v6, aR 15 330 8]) okp_X12_isAsked (by decide +kernel) ml_RX12_280 tok_X12_isAsked nar_X12_isAsked (by decide) rfl (Nat.le_of_ble_eq_true rfl) (ok_X12_isAsked h7) rfl ?_
    refine aw_forget (L' := [some (aR 12 0 0), none, none, some (aI v3), some (aI v4), some (aI (s0 - s1)), some (aI v6), some (aI v7), none, none]) (lsub_s (lsub_n (lsub_n (lsub_s (lsub_s (lsub_s (lsub_s (lsub_s (lsub_n (lsub_n (lsub_0))))))))))) ?_
    exact ok_X12_summedUp_355 hrec_38 v3 v4 (s0 - s1) v6 v7 v6 r9 σ8 _ h
  · rw [if_neg c1] at h
    obtain ⟨hg, h⟩ := grd_some h
    refine aw_seq [(.aload_n 0, 1, ax0), (.getfield 35, 3, (axF 12 21 (2, 7, 14, some 330))), (.iload 5, 2, ax0), (.laload, 1, ax0), (.ldc2_w 278, 3, (axL 2)), (.lrem, 1, ax0), (.lconst 0, 1, (axL 0)), (.lcmp, 1, ax0)] (pc' := 303) (L' := [some (aR 12 0 0), none, none, some (aI v3), some (aI v4), some (aI (s0 - s1)), some (aI v6), some (aI v7), some (aI v8), none]) (stk' := [aI (lg_cmp (jlrem (σ.2.1 7 (ix (s0 - s1))) 2) 0), aI v6, aR 15 330 8]) (σ' := σ) (g := [inb (s0 - s1) 330, (!decide ((2 : Int64) = 0))]) (by decide +kernel) rfl hg ?_
    refine aw_if_ne (off := 7) (tgt := 310) (by decide +kernel) (by decide) (fun c1 => ?_) (fun c1 => ?_)
    · rw [if_neg c1] at h
      refine aw_seq [(.iconst 0, 1, (axI 0))] (pc' := 311) (L' := [some (aR 12 0 0), none, none, some (aI v3), some (aI v4), some (aI (s0 - s1)), some (aI v6), some (aI v7), some (aI v8), none]) (stk' := [aI 0, aI v6, aR 15 330 8]) (σ' := σ) (g := []) (by decide +kernel) rfl rfl ?_
      refine aw_forget (L' := [some (aR 12 0 0), none, none, some (aI v3), some (aI v4), some (aI (s0 - s1)), some (aI v6), some (aI v7), some (aI v8), none]) (lsub_s (lsub_n (lsub_n (lsub_s (lsub_s (lsub_s (lsub_s (lsub_s (lsub_s (lsub_n (lsub_0))))))))))) ?_
      exact ok_X12_summedUp_311 hrec_38 v3 v4 (s0 - s1) v6 v7 v8 v6 0 σ _ h
    · rw [if_pos c1] at h
      refine aw_seq [(.iconst 1, 1, (axI 1))] (pc' := 307) (L' := [some (aR 12 0 0), none, none, some (aI v3), some (aI v4), some (aI (s0 - s1)), some (aI v6), some (aI v7), some (aI v8), none]) (stk' := [aI 1, aI v6, aR 15 330 8]) (σ' := σ) (g := []) (by decide +kernel) rfl rfl ?_
      refine aw_goto (off := 4) (tgt := 311) (by decide +kernel) (by decide) ?_
      refine aw_forget (L' := [some (aR 12 0 0), none, none, some (aI v3), some (aI v4), some (aI (s0 - s1)), some (aI v6), some (aI v7), some (aI v8), none]) (lsub_s (lsub_n (lsub_n (lsub_s (lsub_s (lsub_s (lsub_s (lsub_s (lsub_s (lsub_n (lsub_0))))))))))) ?_
      exact ok_X12_summedUp_311 hrec_38 v3 v4 (s0 - s1) v6 v7 v8 v6 1 σ _ h
def f_X12_summedUp_394  (rec_38 : Int32 → Int32 → Int32 → Int32 → Int32 → Sg → Option (Int64 × Sg)) (v3 : Int32) (v4 : Int32) (v5 : Int32) (v6 : Int32) (v7 : Int32) (s1 : Int32) (s2 : Int32) (σ : Sg) : Option (Int64 × Sg) :=
  grd ((inb s1 330 && bz s2) && true) <|
  ltσ (wI σ 8 (ix s1) s2) fun σ10 =>
  f_X12_summedUp_431 rec_38 v3 v4 v5 v6 v7 σ10
set_option maxRecDepth 100000 in
set_option maxHeartbeats 4000000 in
theorem ok_X12_summedUp_394 {κ : Kd}   {rec_38 : Int32 → Int32 → Int32 → Int32 → Int32 → Sg → Option (Int64 × Sg)} (hrec_38 : ∀ (v3 : Int32) (v4 : Int32) (v5 : Int32) (v6 : Int32) (v7 : Int32) (σ : Sg) (q : (Int64 × Sg)), rec_38 v3 v4 v5 v6 v7 σ = some q → AW κ pX12_summedUp 3 (some (aL q.1), q.2) 38 [some (aR 12 0 0), none, none, some (aI v3), some (aI v4), some (aI v5), some (aI v6), some (aI v7), none, none] [] σ) : ∀ (v3 : Int32) (v4 : Int32) (v5 : Int32) (v6 : Int32) (v7 : Int32) (s1 : Int32) (s2 : Int32) (σ : Sg) (q : (Int64 × Sg)), f_X12_summedUp_394 rec_38 v3 v4 v5 v6 v7 s1 s2 σ = some q → AW κ pX12_summedUp 3 (some (aL q.1), q.2) 394 [some (aR 12 0 0), none, none, some (aI v3), some (aI v4), some (aI v5), some (aI v6), some (aI v7), none, none] [aI s2, aI s1, aR 15 330 8] σ := by
  intro v3 v4 v5 v6 v7 s1 s2 σ q h
  unfold f_X12_summedUp_394 at h
  obtain ⟨hg, h⟩ := grd_some h
  obtain ⟨σ10, e11, h⟩ := ltσ_some h
  refine aw_seq [(.bastore, 1, ax0)] (pc' := 395) (L' := [some (aR 12 0 0), none, none, some (aI v3), some (aI v4), some (aI v5), some (aI v6), some (aI v7), none, none]) (stk' := []) (σ' := σ10) (g := [(inb s1 330 && bz s2)]) (by decide +kernel) (by rw [e11]; rfl) hg ?_
  refine aw_goto (off := 36) (tgt := 431) (by decide +kernel) (by decide) ?_
  refine aw_forget (L' := [some (aR 12 0 0), none, none, some (aI v3), some (aI v4), some (aI v5), some (aI v6), some (aI v7), none, none]) (lsub_s (lsub_n (lsub_n (lsub_s (lsub_s (lsub_s (lsub_s (lsub_s (lsub_n (lsub_n (lsub_0))))))))))) ?_
  exact ok_X12_summedUp_431 hrec_38 v3 v4 v5 v6 v7 σ10 _ h
def f_X12_summedUp_38   : Nat → Int32 → Int32 → Int32 → Int32 → Int32 → Sg → Option (Int64 × Sg)
  | 0, _, _, _, _, _, _ => none
  | fu + 1, v3, v4, v5, v6, v7, σ =>
    grd (inb (v3 + 2) 2820 && true) <|
    if (σ.1 3 (ix (v3 + 2))) ≤ v7 then (
      grd (inb 0 330 && true) <|
      some ((σ.2.1 7 (ix 0)), σ)
    ) else (
      grd (inb (v4 + (2 * v7)) 2820 && (inb ((v4 + (2 * v7)) + 1) 2820 && true)) <|
      if 1 < (σ.1 3 (ix (v4 + (2 * v7)))) then (
        if (σ.1 3 (ix (v4 + (2 * v7)))) = 3 then (
          grd (inb (v6 + (-1)) 330 && true) <|
          if (σ.1 8 (ix (v6 + (-1)))) = 0 then (
            grd (inb (v5 + (-1)) 330 && (inb ((v5 + (-1)) - 1) 330 && true)) <|
            ltσ (wL σ 7 (ix ((v5 + (-1)) - 1)) (σ.2.1 7 (ix (v5 + (-1))))) fun σ25 =>
            f_X12_summedUp_431 (f_X12_summedUp_38 fu) v3 v4 (v5 + (-1)) (v6 + (-1)) v7 σ25
          ) else (
            f_X12_summedUp_431 (f_X12_summedUp_38 fu) v3 v4 (v5 + (-1)) (v6 + (-1)) v7 σ
          )
        ) else (
          if 4 < (σ.1 3 (ix (v4 + (2 * v7)))) then (
            if 10 ≤ (σ.1 3 (ix (v4 + (2 * v7)))) then (
              if 20 ≤ (σ.1 3 (ix (v4 + (2 * v7)))) then (
                if (σ.1 3 (ix (v4 + (2 * v7)))) = 20 then (
                  grd (inb (v6 - 1) 330 && true) <|
                  if (σ.1 8 (ix (v6 - 1))) = 0 then (
                    f_X12_summedUp_394 (f_X12_summedUp_38 fu) v3 v4 v5 v6 v7 (v6 - 1) 1 σ
                  ) else (
                    f_X12_summedUp_394 (f_X12_summedUp_38 fu) v3 v4 v5 v6 v7 (v6 - 1) 0 σ
                  )
                ) else (
                  grd (inb ((v6 + (-1)) - 1) 330 && (inb (v6 + (-1)) 330 && true)) <|
                  bnd (f_X12_joined (σ.1 3 (ix (v4 + (2 * v7)))) (σ.1 8 (ix ((v6 + (-1)) - 1))) (σ.1 8 (ix (v6 + (-1)))) σ) fun r14 σ13 =>
                  grd ((inb ((v6 + (-1)) - 1) 330 && bz r14) && true) <|
                  ltσ (wI σ13 8 (ix ((v6 + (-1)) - 1)) r14) fun σ15 =>
                  f_X12_summedUp_431 (f_X12_summedUp_38 fu) v3 v4 v5 (v6 + (-1)) v7 σ15
                )
              ) else (
                if (σ.1 3 (ix (v4 + (2 * v7)))) < 16 then (
                  f_X12_summedUp_274 (f_X12_summedUp_38 fu) v3 v4 v6 v7 (σ.1 3 (ix (v4 + (2 * v7)))) v5 2 σ
                ) else (
                  f_X12_summedUp_274 (f_X12_summedUp_38 fu) v3 v4 v6 v7 (σ.1 3 (ix (v4 + (2 * v7)))) v5 1 σ
                )
              )
            ) else (
              grd (inb ((v5 + (-1)) - 1) 330 && (inb (v5 + (-1)) 330 && true)) <|
              bnd (f_X12_two (σ.1 3 (ix (v4 + (2 * v7)))) (σ.2.1 7 (ix ((v5 + (-1)) - 1))) (σ.2.1 7 (ix (v5 + (-1)))) σ) fun r19 σ18 =>
              grd (inb ((v5 + (-1)) - 1) 330 && true) <|
              ltσ (wL σ18 7 (ix ((v5 + (-1)) - 1)) r19) fun σ20 =>
              f_X12_summedUp_431 (f_X12_summedUp_38 fu) v3 v4 (v5 + (-1)) v6 v7 σ20
            )
          ) else (
            if (σ.1 3 (ix (v4 + (2 * v7)))) = 4 then (
              grd (inb (v5 - 1) 330 && true) <|
              f_X12_summedUp_206 (f_X12_summedUp_38 fu) v3 v4 v5 v6 v7 (v5 - 1) (-(σ.2.1 7 (ix (v5 - 1)))) σ
            ) else (
              grd (inb (v5 - 1) 330 && true) <|
              bnd (f_X12_warmOf (σ.2.1 7 (ix (v5 - 1))) σ) fun r24 σ23 =>
              f_X12_summedUp_206 (f_X12_summedUp_38 fu) v3 v4 v5 v6 v7 (v5 - 1) r24 σ23
            )
          )
        )
      ) else (
        if (σ.1 3 (ix (v4 + (2 * v7)))) = 0 then (
          f_X12_summedUp_112 (f_X12_summedUp_38 fu) v3 v4 v5 v6 v7 v5 (Int32.toInt64 (σ.1 3 (ix ((v4 + (2 * v7)) + 1)))) σ
        ) else (
          grd (inb (σ.1 3 (ix ((v4 + (2 * v7)) + 1))) 9 && true) <|
          f_X12_summedUp_112 (f_X12_summedUp_38 fu) v3 v4 v5 v6 v7 v5 (Int32.toInt64 (σ.1 6 (ix (σ.1 3 (ix ((v4 + (2 * v7)) + 1)))))) σ
        )
      )
    )
set_option maxRecDepth 100000 in
set_option maxHeartbeats 4000000 in
theorem ok_X12_summedUp_38 {κ : Kd}    : ∀ (fu : Nat) (v3 : Int32) (v4 : Int32) (v5 : Int32) (v6 : Int32) (v7 : Int32) (σ : Sg) (q : (Int64 × Sg)), f_X12_summedUp_38 fu v3 v4 v5 v6 v7 σ = some q → AW κ pX12_summedUp 3 (some (aL q.1), q.2) 38 [some (aR 12 0 0), none, none, some (aI v3), some (aI v4), some (aI v5), some (aI v6), some (aI v7), none, none] [] σ := by
  intro fu
  induction fu with
  | zero =>
    intro v3 v4 v5 v6 v7 σ q h
    unfold f_X12_summedUp_38 at h
    cases h
  | succ fu ih =>
    intro v3 v4 v5 v6 v7 σ q h
    unfold f_X12_summedUp_38 at h
    obtain ⟨hg, h⟩ := grd_some h
    refine aw_seq [(.iload 7, 2, ax0), (.aload_n 0, 1, ax0), (.getfield 16, 3, (axF 12 2 (2, 3, 13, some 2820))), (.iload_n 3, 1, ax0), (.iconst 2, 1, (axI 2)), (.iadd, 1, ax0), (.iaload, 1, ax0)] (pc' := 48) (L' := [some (aR 12 0 0), none, none, some (aI v3), some (aI v4), some (aI v5), some (aI v6), some (aI v7), none, none]) (stk' := [aI (σ.1 3 (ix (v3 + 2))), aI v7]) (σ' := σ) (g := [inb (v3 + 2) 2820]) (by decide +kernel) rfl hg ?_
    refine aw_icmp_ge (off := 389) (tgt := 437) (by decide +kernel) (by decide) (fun c1 => ?_) (fun c1 => ?_)
    · rw [if_pos c1] at h
      obtain ⟨hg, h⟩ := grd_some h
      refine aw_seq [(.aload_n 0, 1, ax0), (.getfield 35, 3, (axF 12 21 (2, 7, 14, some 330))), (.iconst 0, 1, (axI 0)), (.laload, 1, ax0)] (pc' := 443) (L' := [some (aR 12 0 0), none, none, some (aI v3), some (aI v4), some (aI v5), some (aI v6), some (aI v7), none, none]) (stk' := [aL (σ.2.1 7 (ix 0))]) (σ' := σ) (g := [inb 0 330]) (by decide +kernel) rfl hg ?_
      cases h
      exact aw_lret rfl (by decide +kernel)
    · rw [if_neg c1] at h
      obtain ⟨hg, h⟩ := grd_some h
      refine aw_seq [(.aload_n 0, 1, ax0), (.getfield 16, 3, (axF 12 2 (2, 3, 13, some 2820))), (.iload 4, 2, ax0), (.iconst 2, 1, (axI 2)), (.iload 7, 2, ax0), (.imul, 1, ax0), (.iadd, 1, ax0), (.iaload, 1, ax0), (.istore 8, 2, ax0), (.aload_n 0, 1, ax0), (.getfield 16, 3, (axF 12 2 (2, 3, 13, some 2820))), (.iload 4, 2, ax0), (.iconst 2, 1, (axI 2)), (.iload 7, 2, ax0), (.imul, 1, ax0), (.iadd, 1, ax0), (.iconst 1, 1, (axI 1)), (.iadd, 1, ax0), (.iaload, 1, ax0), (.istore 9, 2, ax0), (.iload 8, 2, ax0), (.iconst 1, 1, (axI 1))] (pc' := 84) (L' := [some (aR 12 0 0), none, none, some (aI v3), some (aI v4), some (aI v5), some (aI v6), some (aI v7), some (aI (σ.1 3 (ix (v4 + (2 * v7))))), some (aI (σ.1 3 (ix ((v4 + (2 * v7)) + 1))))]) (stk' := [aI 1, aI (σ.1 3 (ix (v4 + (2 * v7))))]) (σ' := σ) (g := [inb (v4 + (2 * v7)) 2820, inb ((v4 + (2 * v7)) + 1) 2820]) (by decide +kernel) rfl hg ?_
      refine aw_icmp_gt (off := 35) (tgt := 119) (by decide +kernel) (by decide) (fun c1 => ?_) (fun c1 => ?_)
      · rw [if_pos c1] at h
        refine aw_seq [(.iload 8, 2, ax0), (.iconst 3, 1, (axI 3))] (pc' := 122) (L' := [some (aR 12 0 0), none, none, some (aI v3), some (aI v4), some (aI v5), some (aI v6), some (aI v7), some (aI (σ.1 3 (ix (v4 + (2 * v7))))), some (aI (σ.1 3 (ix ((v4 + (2 * v7)) + 1))))]) (stk' := [aI 3, aI (σ.1 3 (ix (v4 + (2 * v7))))]) (σ' := σ) (g := []) (by decide +kernel) rfl rfl ?_
        refine aw_icmp_ne (off := 38) (tgt := 160) (by decide +kernel) (by decide) (fun c1 => ?_) (fun c1 => ?_)
        · rw [if_neg c1] at h
          refine aw_seq [(.iload 8, 2, ax0), (.iconst 4, 1, (axI 4))] (pc' := 163) (L' := [some (aR 12 0 0), none, none, some (aI v3), some (aI v4), some (aI v5), some (aI v6), some (aI v7), some (aI (σ.1 3 (ix (v4 + (2 * v7))))), some (aI (σ.1 3 (ix ((v4 + (2 * v7)) + 1))))]) (stk' := [aI 4, aI (σ.1 3 (ix (v4 + (2 * v7))))]) (σ' := σ) (g := []) (by decide +kernel) rfl rfl ?_
          refine aw_icmp_gt (off := 47) (tgt := 210) (by decide +kernel) (by decide) (fun c1 => ?_) (fun c1 => ?_)
          · rw [if_pos c1] at h
            refine aw_seq [(.iload 8, 2, ax0), (.bipush 10, 2, (axI 10))] (pc' := 214) (L' := [some (aR 12 0 0), none, none, some (aI v3), some (aI v4), some (aI v5), some (aI v6), some (aI v7), some (aI (σ.1 3 (ix (v4 + (2 * v7))))), some (aI (σ.1 3 (ix ((v4 + (2 * v7)) + 1))))]) (stk' := [aI 10, aI (σ.1 3 (ix (v4 + (2 * v7))))]) (σ' := σ) (g := []) (by decide +kernel) rfl rfl ?_
            refine aw_icmp_ge (off := 39) (tgt := 253) (by decide +kernel) (by decide) (fun c1 => ?_) (fun c1 => ?_)
            · rw [if_pos c1] at h
              refine aw_seq [(.iload 8, 2, ax0), (.bipush 20, 2, (axI 20))] (pc' := 257) (L' := [some (aR 12 0 0), none, none, some (aI v3), some (aI v4), some (aI v5), some (aI v6), some (aI v7), some (aI (σ.1 3 (ix (v4 + (2 * v7))))), some (aI (σ.1 3 (ix ((v4 + (2 * v7)) + 1))))]) (stk' := [aI 20, aI (σ.1 3 (ix (v4 + (2 * v7))))]) (σ' := σ) (g := []) (by decide +kernel) rfl rfl ?_
              refine aw_icmp_ge (off := 105) (tgt := 362) (by decide +kernel) (by decide) (fun c1 => ?_) (fun c1 => ?_)
              · rw [if_pos c1] at h
                refine aw_seq [(.iload 8, 2, ax0), (.bipush 20, 2, (axI 20))] (pc' := 366) (L' := [some (aR 12 0 0), none, none, some (aI v3), some (aI v4), some (aI v5), some (aI v6), some (aI v7), some (aI (σ.1 3 (ix (v4 + (2 * v7))))), some (aI (σ.1 3 (ix ((v4 + (2 * v7)) + 1))))]) (stk' := [aI 20, aI (σ.1 3 (ix (v4 + (2 * v7))))]) (σ' := σ) (g := []) (by decide +kernel) rfl rfl ?_
                refine aw_icmp_ne (off := 32) (tgt := 398) (by decide +kernel) (by decide) (fun c1 => ?_) (fun c1 => ?_)
                · rw [if_neg c1] at h
                  obtain ⟨hg, h⟩ := grd_some h
                  refine aw_seq [(.iinc 6 (-1), 3, (axI (-1))), (.aload_n 0, 1, ax0), (.getfield 39, 3, (axF 12 22 (2, 8, 15, some 330))), (.iload 6, 2, ax0), (.iconst 1, 1, (axI 1)), (.isub, 1, ax0), (.iload 8, 2, ax0), (.aload_n 0, 1, ax0), (.getfield 39, 3, (axF 12 22 (2, 8, 15, some 330))), (.iload 6, 2, ax0), (.iconst 1, 1, (axI 1)), (.isub, 1, ax0), (.baload, 1, ax0), (.aload_n 0, 1, ax0), (.getfield 39, 3, (axF 12 22 (2, 8, 15, some 330))), (.iload 6, 2, ax0), (.baload, 1, ax0)] (pc' := 427) (L' := [some (aR 12 0 0), none, none, some (aI v3), some (aI v4), some (aI v5), some (aI (v6 + (-1))), some (aI v7), some (aI (σ.1 3 (ix (v4 + (2 * v7))))), some (aI (σ.1 3 (ix ((v4 + (2 * v7)) + 1))))]) (stk' := [aI (σ.1 8 (ix (v6 + (-1)))), aI (σ.1 8 (ix ((v6 + (-1)) - 1))), aI (σ.1 3 (ix (v4 + (2 * v7)))), aI ((v6 + (-1)) - 1), aR 15 330 8]) (σ' := σ) (g := [inb ((v6 + (-1)) - 1) 330, inb (v6 + (-1)) 330]) (by decide +kernel) rfl hg ?_
                  obtain ⟨r14, σ13, h12, h⟩ := bnd_some h
                  refine aw_cS (P' := pX12_joined) (idx := 284) (d' := 1) [aI (σ.1 3 (ix (v4 + (2 * v7)))), aI (σ.1 8 (ix ((v6 + (-1)) - 1))), aI (σ.1 8 (ix (v6 + (-1))))] [aI ((v6 + (-1)) - 1), aR 15 330 8] (ov := (some (aI r14))) (stk2 := [aI r14, aI ((v6 + (-1)) - 1), aR 15 330 8]) okp_X12_joined (by decide +kernel) ml_RX12_284 tok_X12_joined nar_X12_joined (by decide) rfl (Nat.le_of_ble_eq_true rfl) (ok_X12_joined h12) rfl ?_
                  obtain ⟨hg, h⟩ := grd_some h
                  obtain ⟨σ15, e16, h⟩ := ltσ_some h
                  refine aw_seq [(.bastore, 1, ax0)] (pc' := 431) (L' := [some (aR 12 0 0), none, none, some (aI v3), some (aI v4), some (aI v5), some (aI (v6 + (-1))), some (aI v7), some (aI (σ.1 3 (ix (v4 + (2 * v7))))), some (aI (σ.1 3 (ix ((v4 + (2 * v7)) + 1))))]) (stk' := []) (σ' := σ15) (g := [(inb ((v6 + (-1)) - 1) 330 && bz r14)]) (by decide +kernel) (by rw [e16]; rfl) hg ?_
                  refine aw_forget (L' := [some (aR 12 0 0), none, none, some (aI v3), some (aI v4), some (aI v5), some (aI (v6 + (-1))), some (aI v7), none, none]) (lsub_s (lsub_n (lsub_n (lsub_s (lsub_s (lsub_s (lsub_s (lsub_s (lsub_n (lsub_n (lsub_0))))))))))) ?_
                  exact ok_X12_summedUp_431 ih v3 v4 v5 (v6 + (-1)) v7 σ15 _ h
                · rw [if_pos c1] at h
                  obtain ⟨hg, h⟩ := grd_some h
                  refine aw_seq [(.aload_n 0, 1, ax0), (.getfield 39, 3, (axF 12 22 (2, 8, 15, some 330))), (.iload 6, 2, ax0), (.iconst 1, 1, (axI 1)), (.isub, 1, ax0), (.aload_n 0, 1, ax0), (.getfield 39, 3, (axF 12 22 (2, 8, 15, some 330))), (.iload 6, 2, ax0), (.iconst 1, 1, (axI 1)), (.isub, 1, ax0), (.baload, 1, ax0)] (pc' := 386) (L' := [some (aR 12 0 0), none, none, some (aI v3), some (aI v4), some (aI v5), some (aI v6), some (aI v7), some (aI (σ.1 3 (ix (v4 + (2 * v7))))), some (aI (σ.1 3 (ix ((v4 + (2 * v7)) + 1))))]) (stk' := [aI (σ.1 8 (ix (v6 - 1))), aI (v6 - 1), aR 15 330 8]) (σ' := σ) (g := [inb (v6 - 1) 330]) (by decide +kernel) rfl hg ?_
                  refine aw_if_ne (off := 7) (tgt := 393) (by decide +kernel) (by decide) (fun c1 => ?_) (fun c1 => ?_)
                  · rw [if_neg c1] at h
                    refine aw_seq [(.iconst 0, 1, (axI 0))] (pc' := 394) (L' := [some (aR 12 0 0), none, none, some (aI v3), some (aI v4), some (aI v5), some (aI v6), some (aI v7), some (aI (σ.1 3 (ix (v4 + (2 * v7))))), some (aI (σ.1 3 (ix ((v4 + (2 * v7)) + 1))))]) (stk' := [aI 0, aI (v6 - 1), aR 15 330 8]) (σ' := σ) (g := []) (by decide +kernel) rfl rfl ?_
                    refine aw_forget (L' := [some (aR 12 0 0), none, none, some (aI v3), some (aI v4), some (aI v5), some (aI v6), some (aI v7), none, none]) (lsub_s (lsub_n (lsub_n (lsub_s (lsub_s (lsub_s (lsub_s (lsub_s (lsub_n (lsub_n (lsub_0))))))))))) ?_
                    exact ok_X12_summedUp_394 ih v3 v4 v5 v6 v7 (v6 - 1) 0 σ _ h
                  · rw [if_pos c1] at h
                    refine aw_seq [(.iconst 1, 1, (axI 1))] (pc' := 390) (L' := [some (aR 12 0 0), none, none, some (aI v3), some (aI v4), some (aI v5), some (aI v6), some (aI v7), some (aI (σ.1 3 (ix (v4 + (2 * v7))))), some (aI (σ.1 3 (ix ((v4 + (2 * v7)) + 1))))]) (stk' := [aI 1, aI (v6 - 1), aR 15 330 8]) (σ' := σ) (g := []) (by decide +kernel) rfl rfl ?_
                    refine aw_goto (off := 4) (tgt := 394) (by decide +kernel) (by decide) ?_
                    refine aw_forget (L' := [some (aR 12 0 0), none, none, some (aI v3), some (aI v4), some (aI v5), some (aI v6), some (aI v7), none, none]) (lsub_s (lsub_n (lsub_n (lsub_s (lsub_s (lsub_s (lsub_s (lsub_s (lsub_n (lsub_n (lsub_0))))))))))) ?_
                    exact ok_X12_summedUp_394 ih v3 v4 v5 v6 v7 (v6 - 1) 1 σ _ h
              · rw [if_neg c1] at h
                refine aw_seq [(.iload 5, 2, ax0), (.iload 8, 2, ax0), (.bipush 16, 2, (axI 16))] (pc' := 266) (L' := [some (aR 12 0 0), none, none, some (aI v3), some (aI v4), some (aI v5), some (aI v6), some (aI v7), some (aI (σ.1 3 (ix (v4 + (2 * v7))))), some (aI (σ.1 3 (ix ((v4 + (2 * v7)) + 1))))]) (stk' := [aI 16, aI (σ.1 3 (ix (v4 + (2 * v7)))), aI v5]) (σ' := σ) (g := []) (by decide +kernel) rfl rfl ?_
                refine aw_icmp_lt (off := 7) (tgt := 273) (by decide +kernel) (by decide) (fun c1 => ?_) (fun c1 => ?_)
                · rw [if_pos c1] at h
                  refine aw_seq [(.iconst 2, 1, (axI 2))] (pc' := 274) (L' := [some (aR 12 0 0), none, none, some (aI v3), some (aI v4), some (aI v5), some (aI v6), some (aI v7), some (aI (σ.1 3 (ix (v4 + (2 * v7))))), some (aI (σ.1 3 (ix ((v4 + (2 * v7)) + 1))))]) (stk' := [aI 2, aI v5]) (σ' := σ) (g := []) (by decide +kernel) rfl rfl ?_
                  refine aw_forget (L' := [some (aR 12 0 0), none, none, some (aI v3), some (aI v4), none, some (aI v6), some (aI v7), some (aI (σ.1 3 (ix (v4 + (2 * v7))))), none]) (lsub_s (lsub_n (lsub_n (lsub_s (lsub_s (lsub_n (lsub_s (lsub_s (lsub_s (lsub_n (lsub_0))))))))))) ?_
                  exact ok_X12_summedUp_274 ih v3 v4 v6 v7 (σ.1 3 (ix (v4 + (2 * v7)))) v5 2 σ _ h
                · rw [if_neg c1] at h
                  refine aw_seq [(.iconst 1, 1, (axI 1))] (pc' := 270) (L' := [some (aR 12 0 0), none, none, some (aI v3), some (aI v4), some (aI v5), some (aI v6), some (aI v7), some (aI (σ.1 3 (ix (v4 + (2 * v7))))), some (aI (σ.1 3 (ix ((v4 + (2 * v7)) + 1))))]) (stk' := [aI 1, aI v5]) (σ' := σ) (g := []) (by decide +kernel) rfl rfl ?_
                  refine aw_goto (off := 4) (tgt := 274) (by decide +kernel) (by decide) ?_
                  refine aw_forget (L' := [some (aR 12 0 0), none, none, some (aI v3), some (aI v4), none, some (aI v6), some (aI v7), some (aI (σ.1 3 (ix (v4 + (2 * v7))))), none]) (lsub_s (lsub_n (lsub_n (lsub_s (lsub_s (lsub_n (lsub_s (lsub_s (lsub_s (lsub_n (lsub_0))))))))))) ?_
                  exact ok_X12_summedUp_274 ih v3 v4 v6 v7 (σ.1 3 (ix (v4 + (2 * v7)))) v5 1 σ _ h
            · rw [if_neg c1] at h
              obtain ⟨hg, h⟩ := grd_some h
              refine aw_seq [(.iinc 5 (-1), 3, (axI (-1))), (.aload_n 0, 1, ax0), (.getfield 35, 3, (axF 12 21 (2, 7, 14, some 330))), (.iload 5, 2, ax0), (.iconst 1, 1, (axI 1)), (.isub, 1, ax0), (.iload 8, 2, ax0), (.aload_n 0, 1, ax0), (.getfield 35, 3, (axF 12 21 (2, 7, 14, some 330))), (.iload 5, 2, ax0), (.iconst 1, 1, (axI 1)), (.isub, 1, ax0), (.laload, 1, ax0), (.aload_n 0, 1, ax0), (.getfield 35, 3, (axF 12 21 (2, 7, 14, some 330))), (.iload 5, 2, ax0), (.laload, 1, ax0)] (pc' := 246) (L' := [some (aR 12 0 0), none, none, some (aI v3), some (aI v4), some (aI (v5 + (-1))), some (aI v6), some (aI v7), some (aI (σ.1 3 (ix (v4 + (2 * v7))))), some (aI (σ.1 3 (ix ((v4 + (2 * v7)) + 1))))]) (stk' := [aL (σ.2.1 7 (ix (v5 + (-1)))), aL (σ.2.1 7 (ix ((v5 + (-1)) - 1))), aI (σ.1 3 (ix (v4 + (2 * v7)))), aI ((v5 + (-1)) - 1), aR 14 330 7]) (σ' := σ) (g := [inb ((v5 + (-1)) - 1) 330, inb (v5 + (-1)) 330]) (by decide +kernel) rfl hg ?_
              obtain ⟨r19, σ18, h17, h⟩ := bnd_some h
              refine aw_cS (P' := pX12_two) (idx := 274) (d' := 2) [aI (σ.1 3 (ix (v4 + (2 * v7)))), aL (σ.2.1 7 (ix ((v5 + (-1)) - 1))), aL (σ.2.1 7 (ix (v5 + (-1))))] [aI ((v5 + (-1)) - 1), aR 14 330 7] (ov := (some (aL r19))) (stk2 := [aL r19, aI ((v5 + (-1)) - 1), aR 14 330 7]) okp_X12_two (by decide +kernel) ml_RX12_274 tok_X12_two nar_X12_two (by decide) rfl (Nat.le_of_ble_eq_true rfl) (ok_X12_two h17) rfl ?_
              obtain ⟨hg, h⟩ := grd_some h
              obtain ⟨σ20, e21, h⟩ := ltσ_some h
              refine aw_seq [(.lastore, 1, ax0)] (pc' := 250) (L' := [some (aR 12 0 0), none, none, some (aI v3), some (aI v4), some (aI (v5 + (-1))), some (aI v6), some (aI v7), some (aI (σ.1 3 (ix (v4 + (2 * v7))))), some (aI (σ.1 3 (ix ((v4 + (2 * v7)) + 1))))]) (stk' := []) (σ' := σ20) (g := [inb ((v5 + (-1)) - 1) 330]) (by decide +kernel) (by rw [e21]; rfl) hg ?_
              refine aw_goto (off := 181) (tgt := 431) (by decide +kernel) (by decide) ?_
              refine aw_forget (L' := [some (aR 12 0 0), none, none, some (aI v3), some (aI v4), some (aI (v5 + (-1))), some (aI v6), some (aI v7), none, none]) (lsub_s (lsub_n (lsub_n (lsub_s (lsub_s (lsub_s (lsub_s (lsub_s (lsub_n (lsub_n (lsub_0))))))))))) ?_
              exact ok_X12_summedUp_431 ih v3 v4 (v5 + (-1)) v6 v7 σ20 _ h
          · rw [if_neg c1] at h
            refine aw_seq [(.aload_n 0, 1, ax0), (.getfield 35, 3, (axF 12 21 (2, 7, 14, some 330))), (.iload 5, 2, ax0), (.iconst 1, 1, (axI 1)), (.isub, 1, ax0), (.iload 8, 2, ax0), (.iconst 4, 1, (axI 4))] (pc' := 177) (L' := [some (aR 12 0 0), none, none, some (aI v3), some (aI v4), some (aI v5), some (aI v6), some (aI v7), some (aI (σ.1 3 (ix (v4 + (2 * v7))))), some (aI (σ.1 3 (ix ((v4 + (2 * v7)) + 1))))]) (stk' := [aI 4, aI (σ.1 3 (ix (v4 + (2 * v7)))), aI (v5 - 1), aR 14 330 7]) (σ' := σ) (g := []) (by decide +kernel) rfl rfl ?_
            refine aw_icmp_ne (off := 16) (tgt := 193) (by decide +kernel) (by decide) (fun c1 => ?_) (fun c1 => ?_)
            · rw [if_neg c1] at h
              obtain ⟨hg, h⟩ := grd_some h
              refine aw_seq [(.aload_n 0, 1, ax0), (.aload_n 0, 1, ax0), (.getfield 35, 3, (axF 12 21 (2, 7, 14, some 330))), (.iload 5, 2, ax0), (.iconst 1, 1, (axI 1)), (.isub, 1, ax0), (.laload, 1, ax0)] (pc' := 203) (L' := [some (aR 12 0 0), none, none, some (aI v3), some (aI v4), some (aI v5), some (aI v6), some (aI v7), some (aI (σ.1 3 (ix (v4 + (2 * v7))))), some (aI (σ.1 3 (ix ((v4 + (2 * v7)) + 1))))]) (stk' := [aL (σ.2.1 7 (ix (v5 - 1))), aR 12 0 0, aI (v5 - 1), aR 14 330 7]) (σ' := σ) (g := [inb (v5 - 1) 330]) (by decide +kernel) rfl hg ?_
              obtain ⟨r24, σ23, h22, h⟩ := bnd_some h
              refine aw_cV (P' := pX12_warmOf) (idx := 271) (d' := 2) (c := 12) (n := 0) (k := 0) [aL (σ.2.1 7 (ix (v5 - 1)))] [aI (v5 - 1), aR 14 330 7] (ov := (some (aL r24))) (stk2 := [aL r24, aI (v5 - 1), aR 14 330 7]) okp_X12_warmOf (by decide +kernel) ml_RX12_271 vok_X12_warmOf (by decide) rfl nar_X12_warmOf (by decide) rfl (Nat.le_of_ble_eq_true rfl) (ok_X12_warmOf h22) rfl ?_
              refine aw_forget (L' := [some (aR 12 0 0), none, none, some (aI v3), some (aI v4), some (aI v5), some (aI v6), some (aI v7), none, none]) (lsub_s (lsub_n (lsub_n (lsub_s (lsub_s (lsub_s (lsub_s (lsub_s (lsub_n (lsub_n (lsub_0))))))))))) ?_
              exact ok_X12_summedUp_206 ih v3 v4 v5 v6 v7 (v5 - 1) r24 σ23 _ h
            · rw [if_pos c1] at h
              obtain ⟨hg, h⟩ := grd_some h
              refine aw_seq [(.aload_n 0, 1, ax0), (.getfield 35, 3, (axF 12 21 (2, 7, 14, some 330))), (.iload 5, 2, ax0), (.iconst 1, 1, (axI 1)), (.isub, 1, ax0), (.laload, 1, ax0), (.lneg, 1, ax0)] (pc' := 190) (L' := [some (aR 12 0 0), none, none, some (aI v3), some (aI v4), some (aI v5), some (aI v6), some (aI v7), some (aI (σ.1 3 (ix (v4 + (2 * v7))))), some (aI (σ.1 3 (ix ((v4 + (2 * v7)) + 1))))]) (stk' := [aL (-(σ.2.1 7 (ix (v5 - 1)))), aI (v5 - 1), aR 14 330 7]) (σ' := σ) (g := [inb (v5 - 1) 330]) (by decide +kernel) rfl hg ?_
              refine aw_goto (off := 16) (tgt := 206) (by decide +kernel) (by decide) ?_
              refine aw_forget (L' := [some (aR 12 0 0), none, none, some (aI v3), some (aI v4), some (aI v5), some (aI v6), some (aI v7), none, none]) (lsub_s (lsub_n (lsub_n (lsub_s (lsub_s (lsub_s (lsub_s (lsub_s (lsub_n (lsub_n (lsub_0))))))))))) ?_
              exact ok_X12_summedUp_206 ih v3 v4 v5 v6 v7 (v5 - 1) (-(σ.2.1 7 (ix (v5 - 1)))) σ _ h
        · rw [if_pos c1] at h
          obtain ⟨hg, h⟩ := grd_some h
          refine aw_seq [(.iinc 5 (-1), 3, (axI (-1))), (.iinc 6 (-1), 3, (axI (-1))), (.aload_n 0, 1, ax0), (.getfield 39, 3, (axF 12 22 (2, 8, 15, some 330))), (.iload 6, 2, ax0), (.baload, 1, ax0)] (pc' := 138) (L' := [some (aR 12 0 0), none, none, some (aI v3), some (aI v4), some (aI (v5 + (-1))), some (aI (v6 + (-1))), some (aI v7), some (aI (σ.1 3 (ix (v4 + (2 * v7))))), some (aI (σ.1 3 (ix ((v4 + (2 * v7)) + 1))))]) (stk' := [aI (σ.1 8 (ix (v6 + (-1))))]) (σ' := σ) (g := [inb (v6 + (-1)) 330]) (by decide +kernel) rfl hg ?_
          refine aw_if_ne (off := 293) (tgt := 431) (by decide +kernel) (by decide) (fun c1 => ?_) (fun c1 => ?_)
          · rw [if_neg c1] at h
            refine aw_forget (L' := [some (aR 12 0 0), none, none, some (aI v3), some (aI v4), some (aI (v5 + (-1))), some (aI (v6 + (-1))), some (aI v7), none, none]) (lsub_s (lsub_n (lsub_n (lsub_s (lsub_s (lsub_s (lsub_s (lsub_s (lsub_n (lsub_n (lsub_0))))))))))) ?_
            exact ok_X12_summedUp_431 ih v3 v4 (v5 + (-1)) (v6 + (-1)) v7 σ _ h
          · rw [if_pos c1] at h
            obtain ⟨hg, h⟩ := grd_some h
            obtain ⟨σ25, e26, h⟩ := ltσ_some h
            refine aw_seq [(.aload_n 0, 1, ax0), (.getfield 35, 3, (axF 12 21 (2, 7, 14, some 330))), (.iload 5, 2, ax0), (.iconst 1, 1, (axI 1)), (.isub, 1, ax0), (.aload_n 0, 1, ax0), (.getfield 35, 3, (axF 12 21 (2, 7, 14, some 330))), (.iload 5, 2, ax0), (.laload, 1, ax0), (.lastore, 1, ax0)] (pc' := 157) (L' := [some (aR 12 0 0), none, none, some (aI v3), some (aI v4), some (aI (v5 + (-1))), some (aI (v6 + (-1))), some (aI v7), some (aI (σ.1 3 (ix (v4 + (2 * v7))))), some (aI (σ.1 3 (ix ((v4 + (2 * v7)) + 1))))]) (stk' := []) (σ' := σ25) (g := [inb (v5 + (-1)) 330, inb ((v5 + (-1)) - 1) 330]) (by decide +kernel) (by rw [e26]; rfl) hg ?_
            refine aw_goto (off := 274) (tgt := 431) (by decide +kernel) (by decide) ?_
            refine aw_forget (L' := [some (aR 12 0 0), none, none, some (aI v3), some (aI v4), some (aI (v5 + (-1))), some (aI (v6 + (-1))), some (aI v7), none, none]) (lsub_s (lsub_n (lsub_n (lsub_s (lsub_s (lsub_s (lsub_s (lsub_s (lsub_n (lsub_n (lsub_0))))))))))) ?_
            exact ok_X12_summedUp_431 ih v3 v4 (v5 + (-1)) (v6 + (-1)) v7 σ25 _ h
      · rw [if_neg c1] at h
        refine aw_seq [(.aload_n 0, 1, ax0), (.getfield 35, 3, (axF 12 21 (2, 7, 14, some 330))), (.iload 5, 2, ax0), (.iload 8, 2, ax0)] (pc' := 95) (L' := [some (aR 12 0 0), none, none, some (aI v3), some (aI v4), some (aI v5), some (aI v6), some (aI v7), some (aI (σ.1 3 (ix (v4 + (2 * v7))))), some (aI (σ.1 3 (ix ((v4 + (2 * v7)) + 1))))]) (stk' := [aI (σ.1 3 (ix (v4 + (2 * v7)))), aI v5, aR 14 330 7]) (σ' := σ) (g := []) (by decide +kernel) rfl rfl ?_
        refine aw_if_ne (off := 9) (tgt := 104) (by decide +kernel) (by decide) (fun c1 => ?_) (fun c1 => ?_)
        · rw [if_neg c1] at h
          obtain ⟨hg, h⟩ := grd_some h
          refine aw_seq [(.aload_n 0, 1, ax0), (.getfield 32, 3, (axF 12 20 (2, 6, 13, some 9))), (.iload 9, 2, ax0), (.iaload, 1, ax0), (.i2l, 1, ax0)] (pc' := 112) (L' := [some (aR 12 0 0), none, none, some (aI v3), some (aI v4), some (aI v5), some (aI v6), some (aI v7), some (aI (σ.1 3 (ix (v4 + (2 * v7))))), some (aI (σ.1 3 (ix ((v4 + (2 * v7)) + 1))))]) (stk' := [aL (Int32.toInt64 (σ.1 6 (ix (σ.1 3 (ix ((v4 + (2 * v7)) + 1)))))), aI v5, aR 14 330 7]) (σ' := σ) (g := [inb (σ.1 3 (ix ((v4 + (2 * v7)) + 1))) 9]) (by decide +kernel) rfl hg ?_
          refine aw_forget (L' := [some (aR 12 0 0), none, none, some (aI v3), some (aI v4), some (aI v5), some (aI v6), some (aI v7), none, none]) (lsub_s (lsub_n (lsub_n (lsub_s (lsub_s (lsub_s (lsub_s (lsub_s (lsub_n (lsub_n (lsub_0))))))))))) ?_
          exact ok_X12_summedUp_112 ih v3 v4 v5 v6 v7 v5 (Int32.toInt64 (σ.1 6 (ix (σ.1 3 (ix ((v4 + (2 * v7)) + 1)))))) σ _ h
        · rw [if_pos c1] at h
          refine aw_seq [(.iload 9, 2, ax0), (.i2l, 1, ax0)] (pc' := 101) (L' := [some (aR 12 0 0), none, none, some (aI v3), some (aI v4), some (aI v5), some (aI v6), some (aI v7), some (aI (σ.1 3 (ix (v4 + (2 * v7))))), some (aI (σ.1 3 (ix ((v4 + (2 * v7)) + 1))))]) (stk' := [aL (Int32.toInt64 (σ.1 3 (ix ((v4 + (2 * v7)) + 1)))), aI v5, aR 14 330 7]) (σ' := σ) (g := []) (by decide +kernel) rfl rfl ?_
          refine aw_goto (off := 11) (tgt := 112) (by decide +kernel) (by decide) ?_
          refine aw_forget (L' := [some (aR 12 0 0), none, none, some (aI v3), some (aI v4), some (aI v5), some (aI v6), some (aI v7), none, none]) (lsub_s (lsub_n (lsub_n (lsub_s (lsub_s (lsub_s (lsub_s (lsub_s (lsub_n (lsub_n (lsub_0))))))))))) ?_
          exact ok_X12_summedUp_112 ih v3 v4 v5 v6 v7 v5 (Int32.toInt64 (σ.1 3 (ix ((v4 + (2 * v7)) + 1)))) σ _ h
def f_X12_summedUp (v1 : Int32) (v2 : Int32) (σ : Sg) : Option (Int64 × Sg) :=
  grd (inb ((((705 * v1) + 1) + (4 * v2)) + 1) 2820 && true) <|
  f_X12_summedUp_38 FU (((705 * v1) + 1) + (4 * v2)) ((705 * v1) + 97) 0 0 (σ.1 3 (ix ((((705 * v1) + 1) + (4 * v2)) + 1))) σ
set_option maxRecDepth 100000 in
set_option maxHeartbeats 4000000 in
theorem ok_X12_summedUp {κ : Kd} {v1 : Int32} {v2 : Int32} {σ : Sg} {q : (Int64 × Sg)} (h : f_X12_summedUp v1 v2 σ = some q) : AMet κ pX12_summedUp 3 [aR 12 0 0, aI v1, aI v2] σ (some (aL q.1), q.2) := by
  unfold f_X12_summedUp at h
  refine amet_of okp_X12_summedUp [(false, aR 12 0 0), (false, aI v1), (false, aI v2)] (List.forall_mem_cons.mpr ⟨rfl, List.forall_mem_cons.mpr ⟨rfl, List.forall_mem_cons.mpr ⟨rfl, (fun _ hn => absurd hn List.not_mem_nil)⟩⟩⟩) 7 rfl ?_
  show AW κ pX12_summedUp 3 (some (aL q.1), q.2) 0 [some (aR 12 0 0), some (aI v1), some (aI v2), none, none, none, none, none, none, none] [] σ
  obtain ⟨hg, h⟩ := grd_some h
  refine aw_seq [(.sipush 705, 3, (axI 705)), (.iload_n 1, 1, ax0), (.imul, 1, ax0), (.iconst 1, 1, (axI 1)), (.iadd, 1, ax0), (.iconst 4, 1, (axI 4)), (.iload_n 2, 1, ax0), (.imul, 1, ax0), (.iadd, 1, ax0), (.istore_n 3, 1, ax0), (.sipush 705, 3, (axI 705)), (.iload_n 1, 1, ax0), (.imul, 1, ax0), (.bipush 97, 2, (axI 97)), (.iadd, 1, ax0), (.istore 4, 2, ax0), (.iconst 0, 1, (axI 0)), (.istore 5, 2, ax0), (.iconst 0, 1, (axI 0)), (.istore 6, 2, ax0), (.aload_n 0, 1, ax0), (.getfield 16, 3, (axF 12 2 (2, 3, 13, some 2820))), (.iload_n 3, 1, ax0), (.iconst 1, 1, (axI 1)), (.iadd, 1, ax0), (.iaload, 1, ax0), (.istore 7, 2, ax0)] (pc' := 38) (L' := [some (aR 12 0 0), some (aI v1), some (aI v2), some (aI (((705 * v1) + 1) + (4 * v2))), some (aI ((705 * v1) + 97)), some (aI 0), some (aI 0), some (aI (σ.1 3 (ix ((((705 * v1) + 1) + (4 * v2)) + 1)))), none, none]) (stk' := []) (σ' := σ) (g := [inb ((((705 * v1) + 1) + (4 * v2)) + 1) 2820]) (by decide +kernel) rfl hg ?_
  refine aw_forget (L' := [some (aR 12 0 0), none, none, some (aI (((705 * v1) + 1) + (4 * v2))), some (aI ((705 * v1) + 97)), some (aI 0), some (aI 0), some (aI (σ.1 3 (ix ((((705 * v1) + 1) + (4 * v2)) + 1)))), none, none]) (lsub_s (lsub_n (lsub_n (lsub_s (lsub_s (lsub_s (lsub_s (lsub_s (lsub_n (lsub_n (lsub_0))))))))))) ?_
  exact ok_X12_summedUp_38 FU (((705 * v1) + 1) + (4 * v2)) ((705 * v1) + 97) 0 0 (σ.1 3 (ix ((((705 * v1) + 1) + (4 * v2)) + 1))) σ _ h
def f_X12_says_63   (v3 : Int32) (v4 : Int32) (σ : Sg) : Option (Int32 × Sg) :=
  bnd (f_X12_cut (Int32.toInt64 v3) 0 v4 σ) fun r3 σ2 =>
  some (r3, σ2)
set_option maxRecDepth 100000 in
set_option maxHeartbeats 4000000 in
theorem ok_X12_says_63 {κ : Kd}    : ∀ (v3 : Int32) (v4 : Int32) (σ : Sg) (q : (Int32 × Sg)), f_X12_says_63 v3 v4 σ = some q → AW κ pX12_says 4 (some (aI q.1), q.2) 63 [none, none, none, some (aI v3), some (aI v4), none] [] σ := by
  intro v3 v4 σ q h
  unfold f_X12_says_63 at h
  refine aw_seq [(.iload_n 3, 1, ax0), (.i2l, 1, ax0), (.iconst 0, 1, (axI 0)), (.iload 4, 2, ax0)] (pc' := 68) (L' := [none, none, none, some (aI v3), some (aI v4), none]) (stk' := [aI v4, aI 0, aL (Int32.toInt64 v3)]) (σ' := σ) (g := []) (by decide +kernel) rfl rfl ?_
  obtain ⟨r3, σ2, h1, h⟩ := bnd_some h
  refine aw_cS (P' := pX12_cut) (idx := 291) (d' := 1) [aL (Int32.toInt64 v3), aI 0, aI v4] [] (ov := (some (aI r3))) (stk2 := [aI r3]) okp_X12_cut (by decide +kernel) ml_RX12_291 tok_X12_cut nar_X12_cut (by decide) rfl (Nat.le_of_ble_eq_true rfl) (ok_X12_cut h1) rfl ?_
  cases h
  exact aw_iret rfl (by decide +kernel)
def f_X12_says_3   : Nat → Int32 → Int32 → Int32 → Int32 → Int32 → Sg → Option (Int32 × Sg)
  | 0, _, _, _, _, _, _ => none
  | fu + 1, v1, v2, v3, v4, v5, σ =>
    if v1 < 0 then (
      f_X12_says_63 v3 v4 σ
    ) else (
      grd (inb (705 * v1) 2820 && true) <|
      if (σ.1 3 (ix (705 * v1))) ≤ v5 then (
        f_X12_says_63 v3 v4 σ
      ) else (
        grd (inb (((705 * v1) + 1) + (4 * v5)) 2820 && true) <|
        if (σ.1 3 (ix (((705 * v1) + 1) + (4 * v5)))) = v2 then (
          bnd (f_X12_summedUp v1 v5 σ) fun r6 σ5 =>
          bnd (f_X12_cut r6 0 v4 σ5) fun r9 σ8 =>
          some (r9, σ8)
        ) else (
          (f_X12_says_3 fu) v1 v2 v3 v4 (v5 + 1) σ
        )
      )
    )
set_option maxRecDepth 100000 in
set_option maxHeartbeats 4000000 in
theorem ok_X12_says_3 {κ : Kd}    : ∀ (fu : Nat) (v1 : Int32) (v2 : Int32) (v3 : Int32) (v4 : Int32) (v5 : Int32) (σ : Sg) (q : (Int32 × Sg)), f_X12_says_3 fu v1 v2 v3 v4 v5 σ = some q → AW κ pX12_says 4 (some (aI q.1), q.2) 3 [some (aR 12 0 0), some (aI v1), some (aI v2), some (aI v3), some (aI v4), some (aI v5)] [] σ := by
  intro fu
  induction fu with
  | zero =>
    intro v1 v2 v3 v4 v5 σ q h
    unfold f_X12_says_3 at h
    cases h
  | succ fu ih =>
    intro v1 v2 v3 v4 v5 σ q h
    unfold f_X12_says_3 at h
    refine aw_seq [(.iload_n 1, 1, ax0)] (pc' := 4) (L' := [some (aR 12 0 0), some (aI v1), some (aI v2), some (aI v3), some (aI v4), some (aI v5)]) (stk' := [aI v1]) (σ' := σ) (g := []) (by decide +kernel) rfl rfl ?_
    refine aw_if_lt (off := 59) (tgt := 63) (by decide +kernel) (by decide) (fun c1 => ?_) (fun c1 => ?_)
    · rw [if_pos c1] at h
      refine aw_forget (L' := [none, none, none, some (aI v3), some (aI v4), none]) (lsub_n (lsub_n (lsub_n (lsub_s (lsub_s (lsub_n (lsub_0))))))) ?_
      exact ok_X12_says_63 v3 v4 σ _ h
    · rw [if_neg c1] at h
      obtain ⟨hg, h⟩ := grd_some h
      refine aw_seq [(.iload 5, 2, ax0), (.aload_n 0, 1, ax0), (.getfield 16, 3, (axF 12 2 (2, 3, 13, some 2820))), (.sipush 705, 3, (axI 705)), (.iload_n 1, 1, ax0), (.imul, 1, ax0), (.iaload, 1, ax0)] (pc' := 19) (L' := [some (aR 12 0 0), some (aI v1), some (aI v2), some (aI v3), some (aI v4), some (aI v5)]) (stk' := [aI (σ.1 3 (ix (705 * v1))), aI v5]) (σ' := σ) (g := [inb (705 * v1) 2820]) (by decide +kernel) rfl hg ?_
      refine aw_icmp_ge (off := 44) (tgt := 63) (by decide +kernel) (by decide) (fun c1 => ?_) (fun c1 => ?_)
      · rw [if_pos c1] at h
        refine aw_forget (L' := [none, none, none, some (aI v3), some (aI v4), none]) (lsub_n (lsub_n (lsub_n (lsub_s (lsub_s (lsub_n (lsub_0))))))) ?_
        exact ok_X12_says_63 v3 v4 σ _ h
      · rw [if_neg c1] at h
        obtain ⟨hg, h⟩ := grd_some h
        refine aw_seq [(.aload_n 0, 1, ax0), (.getfield 16, 3, (axF 12 2 (2, 3, 13, some 2820))), (.sipush 705, 3, (axI 705)), (.iload_n 1, 1, ax0), (.imul, 1, ax0), (.iconst 1, 1, (axI 1)), (.iadd, 1, ax0), (.iconst 4, 1, (axI 4)), (.iload 5, 2, ax0), (.imul, 1, ax0), (.iadd, 1, ax0), (.iaload, 1, ax0), (.iload_n 2, 1, ax0)] (pc' := 40) (L' := [some (aR 12 0 0), some (aI v1), some (aI v2), some (aI v3), some (aI v4), some (aI v5)]) (stk' := [aI v2, aI (σ.1 3 (ix (((705 * v1) + 1) + (4 * v5))))]) (σ' := σ) (g := [inb (((705 * v1) + 1) + (4 * v5)) 2820]) (by decide +kernel) rfl hg ?_
        refine aw_icmp_ne (off := 17) (tgt := 57) (by decide +kernel) (by decide) (fun c1 => ?_) (fun c1 => ?_)
        · rw [if_neg c1] at h
          refine aw_seq [(.iinc 5 1, 3, (axI 1))] (pc' := 60) (L' := [some (aR 12 0 0), some (aI v1), some (aI v2), some (aI v3), some (aI v4), some (aI (v5 + 1))]) (stk' := []) (σ' := σ) (g := []) (by decide +kernel) rfl rfl ?_
          refine aw_goto (off := (-57)) (tgt := 3) (by decide +kernel) (by decide) ?_
          refine aw_forget (L' := [some (aR 12 0 0), some (aI v1), some (aI v2), some (aI v3), some (aI v4), some (aI (v5 + 1))]) (lsub_s (lsub_s (lsub_s (lsub_s (lsub_s (lsub_s (lsub_0))))))) ?_
          exact ih v1 v2 v3 v4 (v5 + 1) σ _ h
        · rw [if_pos c1] at h
          refine aw_seq [(.aload_n 0, 1, ax0), (.iload_n 1, 1, ax0), (.iload 5, 2, ax0)] (pc' := 47) (L' := [some (aR 12 0 0), some (aI v1), some (aI v2), some (aI v3), some (aI v4), some (aI v5)]) (stk' := [aI v5, aI v1, aR 12 0 0]) (σ' := σ) (g := []) (by decide +kernel) rfl rfl ?_
          obtain ⟨r6, σ5, h4, h⟩ := bnd_some h
          refine aw_cV (P' := pX12_summedUp) (idx := 288) (d' := 3) (c := 12) (n := 0) (k := 0) [aI v1, aI v5] [] (ov := (some (aL r6))) (stk2 := [aL r6]) okp_X12_summedUp (by decide +kernel) ml_RX12_288 vok_X12_summedUp (by decide) rfl nar_X12_summedUp (by decide) rfl (Nat.le_of_ble_eq_true rfl) (ok_X12_summedUp h4) rfl ?_
          refine aw_seq [(.iconst 0, 1, (axI 0)), (.iload 4, 2, ax0)] (pc' := 53) (L' := [some (aR 12 0 0), some (aI v1), some (aI v2), some (aI v3), some (aI v4), some (aI v5)]) (stk' := [aI v4, aI 0, aL r6]) (σ' := σ5) (g := []) (by decide +kernel) rfl rfl ?_
          obtain ⟨r9, σ8, h7, h⟩ := bnd_some h
          refine aw_cS (P' := pX12_cut) (idx := 291) (d' := 1) [aL r6, aI 0, aI v4] [] (ov := (some (aI r9))) (stk2 := [aI r9]) okp_X12_cut (by decide +kernel) ml_RX12_291 tok_X12_cut nar_X12_cut (by decide) rfl (Nat.le_of_ble_eq_true rfl) (ok_X12_cut h7) rfl ?_
          cases h
          exact aw_iret rfl (by decide +kernel)
def f_X12_says (v1 : Int32) (v2 : Int32) (v3 : Int32) (v4 : Int32) (σ : Sg) : Option (Int32 × Sg) :=
  f_X12_says_3 FU v1 v2 v3 v4 0 σ
set_option maxRecDepth 100000 in
set_option maxHeartbeats 4000000 in
theorem ok_X12_says {κ : Kd} {v1 : Int32} {v2 : Int32} {v3 : Int32} {v4 : Int32} {σ : Sg} {q : (Int32 × Sg)} (h : f_X12_says v1 v2 v3 v4 σ = some q) : AMet κ pX12_says 4 [aR 12 0 0, aI v1, aI v2, aI v3, aI v4] σ (some (aI q.1), q.2) := by
  unfold f_X12_says at h
  refine amet_of okp_X12_says [(false, aR 12 0 0), (false, aI v1), (false, aI v2), (false, aI v3), (false, aI v4)] (List.forall_mem_cons.mpr ⟨rfl, List.forall_mem_cons.mpr ⟨rfl, List.forall_mem_cons.mpr ⟨rfl, List.forall_mem_cons.mpr ⟨rfl, List.forall_mem_cons.mpr ⟨rfl, (fun _ hn => absurd hn List.not_mem_nil)⟩⟩⟩⟩⟩) 1 rfl ?_
  show AW κ pX12_says 4 (some (aI q.1), q.2) 0 [some (aR 12 0 0), some (aI v1), some (aI v2), some (aI v3), some (aI v4), none] [] σ
  refine aw_seq [(.iconst 0, 1, (axI 0)), (.istore 5, 2, ax0)] (pc' := 3) (L' := [some (aR 12 0 0), some (aI v1), some (aI v2), some (aI v3), some (aI v4), some (aI 0)]) (stk' := []) (σ' := σ) (g := []) (by decide +kernel) rfl rfl ?_
  refine aw_forget (L' := [some (aR 12 0 0), some (aI v1), some (aI v2), some (aI v3), some (aI v4), some (aI 0)]) (lsub_s (lsub_s (lsub_s (lsub_s (lsub_s (lsub_s (lsub_0))))))) ?_
  exact ok_X12_says_3 FU v1 v2 v3 v4 0 σ _ h
def f_X12_nearOf (v1 : Int32) (σ : Sg) : Option (Int32 × Sg) :=
  bnd (f_X12_beside v1 σ) fun r3 σ2 =>
  bnd (f_X12_bits (r3 &&& (σ2.1 0 23)) σ2) fun r6 σ5 =>
  some (r6, σ5)
set_option maxRecDepth 100000 in
set_option maxHeartbeats 4000000 in
theorem ok_X12_nearOf {κ : Kd} {v1 : Int32} {σ : Sg} {q : (Int32 × Sg)} (h : f_X12_nearOf v1 σ = some q) : AMet κ pX12_nearOf 3 [aR 12 0 0, aI v1] σ (some (aI q.1), q.2) := by
  unfold f_X12_nearOf at h
  refine amet_of okp_X12_nearOf [(false, aR 12 0 0), (false, aI v1)] (List.forall_mem_cons.mpr ⟨rfl, List.forall_mem_cons.mpr ⟨rfl, (fun _ hn => absurd hn List.not_mem_nil)⟩⟩) 0 rfl ?_
  show AW κ pX12_nearOf 3 (some (aI q.1), q.2) 0 [some (aR 12 0 0), some (aI v1)] [] σ
  refine aw_seq [(.aload_n 0, 1, ax0), (.iload_n 1, 1, ax0)] (pc' := 2) (L' := [some (aR 12 0 0), some (aI v1)]) (stk' := [aI v1, aR 12 0 0]) (σ' := σ) (g := []) (by decide +kernel) rfl rfl ?_
  obtain ⟨r3, σ2, h1, h⟩ := bnd_some h
  refine aw_cV (P' := pX12_beside) (idx := 294) (d' := 2) (c := 12) (n := 0) (k := 0) [aI v1] [] (ov := (some (aI r3))) (stk2 := [aI r3]) okp_X12_beside (by decide +kernel) ml_RX12_294 vok_X12_beside (by decide) rfl nar_X12_beside (by decide) rfl (Nat.le_of_ble_eq_true rfl) (ok_X12_beside h1) rfl ?_
  refine aw_seq [(.aload_n 0, 1, ax0), (.getfield 297, 3, (axF 12 23 (0, 0, 0, none))), (.iand, 1, ax0)] (pc' := 10) (L' := [some (aR 12 0 0), some (aI v1)]) (stk' := [aI (r3 &&& (σ2.1 0 23))]) (σ' := σ2) (g := []) (by decide +kernel) rfl rfl ?_
  obtain ⟨r6, σ5, h4, h⟩ := bnd_some h
  refine aw_cS (P' := pX12_bits) (idx := 300) (d' := 1) [aI (r3 &&& (σ2.1 0 23))] [] (ov := (some (aI r6))) (stk2 := [aI r6]) okp_X12_bits (by decide +kernel) ml_RX12_300 tok_X12_bits nar_X12_bits (by decide) rfl (Nat.le_of_ble_eq_true rfl) (ok_X12_bits h4) rfl ?_
  cases h
  exact aw_iret rfl (by decide +kernel)
def f_X12_name_30   (v1 : Int32) (s1 : Int32) (s2 : Int32) (σ : Sg) : Option Sg :=
  grd (inb s1 9 && true) <|
  ltσ (wI σ 6 (ix s1) s2) fun σ1 =>
  grd (inb 7 1986 && (inb 2 9 && true)) <|
  ltσ (wI σ1 6 (ix 2) (σ1.1 1 (ix 7))) fun σ3 =>
  grd (inb 3 9 && true) <|
  ltσ (wI σ3 6 (ix 3) v1) fun σ5 =>
  bnd (f_X12_get v1 3 σ5) fun r9 σ8 =>
  grd (inb 4 9 && true) <|
  ltσ (wI σ8 6 (ix 4) r9) fun σ10 =>
  bnd (f_X12_get v1 0 σ10) fun r14 σ13 =>
  grd (inb 5 9 && true) <|
  ltσ (wI σ13 6 (ix 5) r14) fun σ15 =>
  bnd (f_X12_get v1 1 σ15) fun r19 σ18 =>
  grd (inb 6 9 && true) <|
  ltσ (wI σ18 6 (ix 6) r19) fun σ20 =>
  bnd (f_X12_nearOf v1 σ20) fun r24 σ23 =>
  grd (inb 7 9 && true) <|
  ltσ (wI σ23 6 (ix 7) r24) fun σ25 =>
  bnd (f_X12_get v1 2 σ25) fun r29 σ28 =>
  grd (inb 8 9 && true) <|
  ltσ (wI σ28 6 (ix 8) r29) fun σ30 =>
  some σ30
set_option maxRecDepth 100000 in
set_option maxHeartbeats 4000000 in
theorem ok_X12_name_30 {κ : Kd}    : ∀ (v1 : Int32) (s1 : Int32) (s2 : Int32) (σ : Sg) (q : Sg), f_X12_name_30 v1 s1 s2 σ = some q → AW κ pX12_name 4 (none, q) 30 [some (aR 12 0 0), some (aI v1)] [aI s2, aI s1, aR 13 9 6] σ := by
  intro v1 s1 s2 σ q h
  unfold f_X12_name_30 at h
  obtain ⟨hg, h⟩ := grd_some h
  obtain ⟨σ1, e2, h⟩ := ltσ_some h
  refine aw_seq [(.iastore, 1, ax0)] (pc' := 31) (L' := [some (aR 12 0 0), some (aI v1)]) (stk' := []) (σ' := σ1) (g := [inb s1 9]) (by decide +kernel) (by rw [e2]; rfl) hg ?_
  obtain ⟨hg, h⟩ := grd_some h
  obtain ⟨σ3, e4, h⟩ := ltσ_some h
  refine aw_seq [(.aload_n 0, 1, ax0), (.getfield 32, 3, (axF 12 20 (2, 6, 13, some 9))), (.iconst 2, 1, (axI 2)), (.aload_n 0, 1, ax0), (.getfield 7, 3, (axF 12 0 (2, 1, 13, some 1986))), (.bipush 7, 2, (axI 7)), (.iaload, 1, ax0), (.iastore, 1, ax0)] (pc' := 44) (L' := [some (aR 12 0 0), some (aI v1)]) (stk' := []) (σ' := σ3) (g := [inb 7 1986, inb 2 9]) (by decide +kernel) (by rw [e4]; rfl) hg ?_
  obtain ⟨hg, h⟩ := grd_some h
  obtain ⟨σ5, e6, h⟩ := ltσ_some h
  refine aw_seq [(.aload_n 0, 1, ax0), (.getfield 32, 3, (axF 12 20 (2, 6, 13, some 9))), (.iconst 3, 1, (axI 3)), (.iload_n 1, 1, ax0), (.iastore, 1, ax0)] (pc' := 51) (L' := [some (aR 12 0 0), some (aI v1)]) (stk' := []) (σ' := σ5) (g := [inb 3 9]) (by decide +kernel) (by rw [e6]; rfl) hg ?_
  refine aw_seq [(.aload_n 0, 1, ax0), (.getfield 32, 3, (axF 12 20 (2, 6, 13, some 9))), (.iconst 4, 1, (axI 4)), (.aload_n 0, 1, ax0), (.iload_n 1, 1, ax0), (.iconst 3, 1, (axI 3))] (pc' := 59) (L' := [some (aR 12 0 0), some (aI v1)]) (stk' := [aI 3, aI v1, aR 12 0 0, aI 4, aR 13 9 6]) (σ' := σ5) (g := []) (by decide +kernel) rfl rfl ?_
  obtain ⟨r9, σ8, h7, h⟩ := bnd_some h
  refine aw_cV (P' := pX12_get) (idx := 77) (d' := 1) (c := 12) (n := 0) (k := 0) [aI v1, aI 3] [aI 4, aR 13 9 6] (ov := (some (aI r9))) (stk2 := [aI r9, aI 4, aR 13 9 6]) okp_X12_get (by decide +kernel) ml_RX12_77 vok_X12_get (by decide) rfl nar_X12_get (by decide) rfl (Nat.le_of_ble_eq_true rfl) (ok_X12_get h7) rfl ?_
  obtain ⟨hg, h⟩ := grd_some h
  obtain ⟨σ10, e11, h⟩ := ltσ_some h
  refine aw_seq [(.iastore, 1, ax0)] (pc' := 63) (L' := [some (aR 12 0 0), some (aI v1)]) (stk' := []) (σ' := σ10) (g := [inb 4 9]) (by decide +kernel) (by rw [e11]; rfl) hg ?_
  refine aw_seq [(.aload_n 0, 1, ax0), (.getfield 32, 3, (axF 12 20 (2, 6, 13, some 9))), (.iconst 5, 1, (axI 5)), (.aload_n 0, 1, ax0), (.iload_n 1, 1, ax0), (.iconst 0, 1, (axI 0))] (pc' := 71) (L' := [some (aR 12 0 0), some (aI v1)]) (stk' := [aI 0, aI v1, aR 12 0 0, aI 5, aR 13 9 6]) (σ' := σ10) (g := []) (by decide +kernel) rfl rfl ?_
  obtain ⟨r14, σ13, h12, h⟩ := bnd_some h
  refine aw_cV (P' := pX12_get) (idx := 77) (d' := 1) (c := 12) (n := 0) (k := 0) [aI v1, aI 0] [aI 5, aR 13 9 6] (ov := (some (aI r14))) (stk2 := [aI r14, aI 5, aR 13 9 6]) okp_X12_get (by decide +kernel) ml_RX12_77 vok_X12_get (by decide) rfl nar_X12_get (by decide) rfl (Nat.le_of_ble_eq_true rfl) (ok_X12_get h12) rfl ?_
  obtain ⟨hg, h⟩ := grd_some h
  obtain ⟨σ15, e16, h⟩ := ltσ_some h
  refine aw_seq [(.iastore, 1, ax0)] (pc' := 75) (L' := [some (aR 12 0 0), some (aI v1)]) (stk' := []) (σ' := σ15) (g := [inb 5 9]) (by decide +kernel) (by rw [e16]; rfl) hg ?_
  refine aw_seq [(.aload_n 0, 1, ax0), (.getfield 32, 3, (axF 12 20 (2, 6, 13, some 9))), (.bipush 6, 2, (axI 6)), (.aload_n 0, 1, ax0), (.iload_n 1, 1, ax0), (.iconst 1, 1, (axI 1))] (pc' := 84) (L' := [some (aR 12 0 0), some (aI v1)]) (stk' := [aI 1, aI v1, aR 12 0 0, aI 6, aR 13 9 6]) (σ' := σ15) (g := []) (by decide +kernel) rfl rfl ?_
  obtain ⟨r19, σ18, h17, h⟩ := bnd_some h
  refine aw_cV (P' := pX12_get) (idx := 77) (d' := 1) (c := 12) (n := 0) (k := 0) [aI v1, aI 1] [aI 6, aR 13 9 6] (ov := (some (aI r19))) (stk2 := [aI r19, aI 6, aR 13 9 6]) okp_X12_get (by decide +kernel) ml_RX12_77 vok_X12_get (by decide) rfl nar_X12_get (by decide) rfl (Nat.le_of_ble_eq_true rfl) (ok_X12_get h17) rfl ?_
  obtain ⟨hg, h⟩ := grd_some h
  obtain ⟨σ20, e21, h⟩ := ltσ_some h
  refine aw_seq [(.iastore, 1, ax0)] (pc' := 88) (L' := [some (aR 12 0 0), some (aI v1)]) (stk' := []) (σ' := σ20) (g := [inb 6 9]) (by decide +kernel) (by rw [e21]; rfl) hg ?_
  refine aw_seq [(.aload_n 0, 1, ax0), (.getfield 32, 3, (axF 12 20 (2, 6, 13, some 9))), (.bipush 7, 2, (axI 7)), (.aload_n 0, 1, ax0), (.iload_n 1, 1, ax0)] (pc' := 96) (L' := [some (aR 12 0 0), some (aI v1)]) (stk' := [aI v1, aR 12 0 0, aI 7, aR 13 9 6]) (σ' := σ20) (g := []) (by decide +kernel) rfl rfl ?_
  obtain ⟨r24, σ23, h22, h⟩ := bnd_some h
  refine aw_cV (P' := pX12_nearOf) (idx := 306) (d' := 3) (c := 12) (n := 0) (k := 0) [aI v1] [aI 7, aR 13 9 6] (ov := (some (aI r24))) (stk2 := [aI r24, aI 7, aR 13 9 6]) okp_X12_nearOf (by decide +kernel) ml_RX12_306 vok_X12_nearOf (by decide) rfl nar_X12_nearOf (by decide) rfl (Nat.le_of_ble_eq_true rfl) (ok_X12_nearOf h22) rfl ?_
  obtain ⟨hg, h⟩ := grd_some h
  obtain ⟨σ25, e26, h⟩ := ltσ_some h
  refine aw_seq [(.iastore, 1, ax0)] (pc' := 100) (L' := [some (aR 12 0 0), some (aI v1)]) (stk' := []) (σ' := σ25) (g := [inb 7 9]) (by decide +kernel) (by rw [e26]; rfl) hg ?_
  refine aw_seq [(.aload_n 0, 1, ax0), (.getfield 32, 3, (axF 12 20 (2, 6, 13, some 9))), (.bipush 8, 2, (axI 8)), (.aload_n 0, 1, ax0), (.iload_n 1, 1, ax0), (.iconst 2, 1, (axI 2))] (pc' := 109) (L' := [some (aR 12 0 0), some (aI v1)]) (stk' := [aI 2, aI v1, aR 12 0 0, aI 8, aR 13 9 6]) (σ' := σ25) (g := []) (by decide +kernel) rfl rfl ?_
  obtain ⟨r29, σ28, h27, h⟩ := bnd_some h
  refine aw_cV (P' := pX12_get) (idx := 77) (d' := 1) (c := 12) (n := 0) (k := 0) [aI v1, aI 2] [aI 8, aR 13 9 6] (ov := (some (aI r29))) (stk2 := [aI r29, aI 8, aR 13 9 6]) okp_X12_get (by decide +kernel) ml_RX12_77 vok_X12_get (by decide) rfl nar_X12_get (by decide) rfl (Nat.le_of_ble_eq_true rfl) (ok_X12_get h27) rfl ?_
  obtain ⟨hg, h⟩ := grd_some h
  obtain ⟨σ30, e31, h⟩ := ltσ_some h
  refine aw_seq [(.iastore, 1, ax0)] (pc' := 113) (L' := [some (aR 12 0 0), some (aI v1)]) (stk' := []) (σ' := σ30) (g := [inb 8 9]) (by decide +kernel) (by rw [e31]; rfl) hg ?_
  cases h
  exact aw_vret rfl (by decide +kernel)
def f_X12_name (v1 : Int32) (σ : Sg) : Option Sg :=
  grd (inb 6 1986 && (inb 0 9 && true)) <|
  ltσ (wI σ 6 (ix 0) (σ.1 1 (ix 6))) fun σ32 =>
  bnd (f_X12_isBell σ32) fun r36 σ35 =>
  if r36 = 0 then (
    f_X12_name_30 v1 1 0 σ35
  ) else (
    f_X12_name_30 v1 1 1 σ35
  )
set_option maxRecDepth 100000 in
set_option maxHeartbeats 4000000 in
theorem ok_X12_name {κ : Kd} {v1 : Int32} {σ : Sg} {q : Sg} (h : f_X12_name v1 σ = some q) : AMet κ pX12_name 4 [aR 12 0 0, aI v1] σ (none, q) := by
  unfold f_X12_name at h
  refine amet_of okp_X12_name [(false, aR 12 0 0), (false, aI v1)] (List.forall_mem_cons.mpr ⟨rfl, List.forall_mem_cons.mpr ⟨rfl, (fun _ hn => absurd hn List.not_mem_nil)⟩⟩) 0 rfl ?_
  show AW κ pX12_name 4 (none, q) 0 [some (aR 12 0 0), some (aI v1)] [] σ
  obtain ⟨hg, h⟩ := grd_some h
  obtain ⟨σ32, e33, h⟩ := ltσ_some h
  refine aw_seq [(.aload_n 0, 1, ax0), (.getfield 32, 3, (axF 12 20 (2, 6, 13, some 9))), (.iconst 0, 1, (axI 0)), (.aload_n 0, 1, ax0), (.getfield 7, 3, (axF 12 0 (2, 1, 13, some 1986))), (.bipush 6, 2, (axI 6)), (.iaload, 1, ax0), (.iastore, 1, ax0)] (pc' := 13) (L' := [some (aR 12 0 0), some (aI v1)]) (stk' := []) (σ' := σ32) (g := [inb 6 1986, inb 0 9]) (by decide +kernel) (by rw [e33]; rfl) hg ?_
  refine aw_seq [(.aload_n 0, 1, ax0), (.getfield 32, 3, (axF 12 20 (2, 6, 13, some 9))), (.iconst 1, 1, (axI 1)), (.aload_n 0, 1, ax0)] (pc' := 19) (L' := [some (aR 12 0 0), some (aI v1)]) (stk' := [aR 12 0 0, aI 1, aR 13 9 6]) (σ' := σ32) (g := []) (by decide +kernel) rfl rfl ?_
  obtain ⟨r36, σ35, h34, h⟩ := bnd_some h
  refine aw_cV (P' := pX12_isBell) (idx := 303) (d' := 1) (c := 12) (n := 0) (k := 0) [] [aI 1, aR 13 9 6] (ov := (some (aI r36))) (stk2 := [aI r36, aI 1, aR 13 9 6]) okp_X12_isBell (by decide +kernel) ml_RX12_303 vok_X12_isBell (by decide) rfl nar_X12_isBell (by decide) rfl (Nat.le_of_ble_eq_true rfl) (ok_X12_isBell h34) rfl ?_
  refine aw_if_eq (off := 7) (tgt := 29) (by decide +kernel) (by decide) (fun c1 => ?_) (fun c1 => ?_)
  · rw [if_pos c1] at h
    refine aw_seq [(.iconst 0, 1, (axI 0))] (pc' := 30) (L' := [some (aR 12 0 0), some (aI v1)]) (stk' := [aI 0, aI 1, aR 13 9 6]) (σ' := σ35) (g := []) (by decide +kernel) rfl rfl ?_
    refine aw_forget (L' := [some (aR 12 0 0), some (aI v1)]) (lsub_s (lsub_s (lsub_0))) ?_
    exact ok_X12_name_30 v1 1 0 σ35 _ h
  · rw [if_neg c1] at h
    refine aw_seq [(.iconst 1, 1, (axI 1))] (pc' := 26) (L' := [some (aR 12 0 0), some (aI v1)]) (stk' := [aI 1, aI 1, aR 13 9 6]) (σ' := σ35) (g := []) (by decide +kernel) rfl rfl ?_
    refine aw_goto (off := 4) (tgt := 30) (by decide +kernel) (by decide) ?_
    refine aw_forget (L' := [some (aR 12 0 0), some (aI v1)]) (lsub_s (lsub_s (lsub_0))) ?_
    exact ok_X12_name_30 v1 1 1 σ35 _ h
def f_X12_coolsOf_23   (s1 : Int32) (s2 : Int32) (s3 : Int32) (σ : Sg) : Option (Int32 × Sg) :=
  bnd (f_X12_says s1 s2 s3 9 σ) fun r3 σ2 =>
  some (r3, σ2)
set_option maxRecDepth 100000 in
set_option maxHeartbeats 4000000 in
theorem ok_X12_coolsOf_23 {κ : Kd}    : ∀ (s1 : Int32) (s2 : Int32) (s3 : Int32) (σ : Sg) (q : (Int32 × Sg)), f_X12_coolsOf_23 s1 s2 s3 σ = some q → AW κ pX12_coolsOf 5 (some (aI q.1), q.2) 23 [none, none, none] [aI s3, aI s2, aI s1, aR 12 0 0] σ := by
  intro s1 s2 s3 σ q h
  unfold f_X12_coolsOf_23 at h
  refine aw_seq [(.bipush 9, 2, (axI 9))] (pc' := 25) (L' := [none, none, none]) (stk' := [aI 9, aI s3, aI s2, aI s1, aR 12 0 0]) (σ' := σ) (g := []) (by decide +kernel) rfl rfl ?_
  obtain ⟨r3, σ2, h1, h⟩ := bnd_some h
  refine aw_cV (P' := pX12_says) (idx := 312) (d' := 4) (c := 12) (n := 0) (k := 0) [aI s1, aI s2, aI s3, aI 9] [] (ov := (some (aI r3))) (stk2 := [aI r3]) okp_X12_says (by decide +kernel) ml_RX12_312 vok_X12_says (by decide) rfl nar_X12_says (by decide) rfl (Nat.le_of_ble_eq_true rfl) (ok_X12_says h1) rfl ?_
  cases h
  exact aw_iret rfl (by decide +kernel)
def f_X12_coolsOf (v1 : Int32) (v2 : Int32) (σ : Sg) : Option (Int32 × Sg) :=
  bndV (f_X12_name v2 σ) fun σ5 =>
  bnd (f_X12_get v2 0 σ5) fun r8 σ7 =>
  if r8 = 2 then (
    f_X12_coolsOf_23 v1 0 3 σ7
  ) else (
    f_X12_coolsOf_23 v1 0 1 σ7
  )
set_option maxRecDepth 100000 in
set_option maxHeartbeats 4000000 in
theorem ok_X12_coolsOf {κ : Kd} {v1 : Int32} {v2 : Int32} {σ : Sg} {q : (Int32 × Sg)} (h : f_X12_coolsOf v1 v2 σ = some q) : AMet κ pX12_coolsOf 5 [aR 12 0 0, aI v1, aI v2] σ (some (aI q.1), q.2) := by
  unfold f_X12_coolsOf at h
  refine amet_of okp_X12_coolsOf [(false, aR 12 0 0), (false, aI v1), (false, aI v2)] (List.forall_mem_cons.mpr ⟨rfl, List.forall_mem_cons.mpr ⟨rfl, List.forall_mem_cons.mpr ⟨rfl, (fun _ hn => absurd hn List.not_mem_nil)⟩⟩⟩) 0 rfl ?_
  show AW κ pX12_coolsOf 5 (some (aI q.1), q.2) 0 [some (aR 12 0 0), some (aI v1), some (aI v2)] [] σ
  refine aw_seq [(.aload_n 0, 1, ax0), (.iload_n 2, 1, ax0)] (pc' := 2) (L' := [some (aR 12 0 0), some (aI v1), some (aI v2)]) (stk' := [aI v2, aR 12 0 0]) (σ' := σ) (g := []) (by decide +kernel) rfl rfl ?_
  obtain ⟨σ5, h4, h⟩ := bndV_some h
  refine aw_cV (P' := pX12_name) (idx := 309) (d' := 4) (c := 12) (n := 0) (k := 0) [aI v2] [] (ov := none) (stk2 := []) okp_X12_name (by decide +kernel) ml_RX12_309 vok_X12_name (by decide) rfl nar_X12_name (by decide) rfl (Nat.le_of_ble_eq_true rfl) (ok_X12_name h4) rfl ?_
  refine aw_seq [(.aload_n 0, 1, ax0), (.iload_n 1, 1, ax0), (.iconst 0, 1, (axI 0)), (.aload_n 0, 1, ax0), (.iload_n 2, 1, ax0), (.iconst 0, 1, (axI 0))] (pc' := 11) (L' := [some (aR 12 0 0), some (aI v1), some (aI v2)]) (stk' := [aI 0, aI v2, aR 12 0 0, aI 0, aI v1, aR 12 0 0]) (σ' := σ5) (g := []) (by decide +kernel) rfl rfl ?_
  obtain ⟨r8, σ7, h6, h⟩ := bnd_some h
  refine aw_cV (P' := pX12_get) (idx := 77) (d' := 1) (c := 12) (n := 0) (k := 0) [aI v2, aI 0] [aI 0, aI v1, aR 12 0 0] (ov := (some (aI r8))) (stk2 := [aI r8, aI 0, aI v1, aR 12 0 0]) okp_X12_get (by decide +kernel) ml_RX12_77 vok_X12_get (by decide) rfl nar_X12_get (by decide) rfl (Nat.le_of_ble_eq_true rfl) (ok_X12_get h6) rfl ?_
  refine aw_seq [(.iconst 2, 1, (axI 2))] (pc' := 15) (L' := [some (aR 12 0 0), some (aI v1), some (aI v2)]) (stk' := [aI 2, aI r8, aI 0, aI v1, aR 12 0 0]) (σ' := σ7) (g := []) (by decide +kernel) rfl rfl ?_
  refine aw_icmp_ne (off := 7) (tgt := 22) (by decide +kernel) (by decide) (fun c1 => ?_) (fun c1 => ?_)
  · rw [if_neg c1] at h
    refine aw_seq [(.iconst 1, 1, (axI 1))] (pc' := 23) (L' := [some (aR 12 0 0), some (aI v1), some (aI v2)]) (stk' := [aI 1, aI 0, aI v1, aR 12 0 0]) (σ' := σ7) (g := []) (by decide +kernel) rfl rfl ?_
    refine aw_forget (L' := [none, none, none]) (lsub_n (lsub_n (lsub_n (lsub_0)))) ?_
    exact ok_X12_coolsOf_23 v1 0 1 σ7 _ h
  · rw [if_pos c1] at h
    refine aw_seq [(.iconst 3, 1, (axI 3))] (pc' := 19) (L' := [some (aR 12 0 0), some (aI v1), some (aI v2)]) (stk' := [aI 3, aI 0, aI v1, aR 12 0 0]) (σ' := σ7) (g := []) (by decide +kernel) rfl rfl ?_
    refine aw_goto (off := 4) (tgt := 23) (by decide +kernel) (by decide) ?_
    refine aw_forget (L' := [none, none, none]) (lsub_n (lsub_n (lsub_n (lsub_0)))) ?_
    exact ok_X12_coolsOf_23 v1 0 3 σ7 _ h
def f_X12_spreadsOf_50   (s1 : Int32) (s2 : Int32) (s3 : Int32) (σ : Sg) : Option (Int32 × Sg) :=
  bnd (f_X12_says s1 s2 s3 10 σ) fun r3 σ2 =>
  some (r3, σ2)
set_option maxRecDepth 100000 in
set_option maxHeartbeats 4000000 in
theorem ok_X12_spreadsOf_50 {κ : Kd}    : ∀ (s1 : Int32) (s2 : Int32) (s3 : Int32) (σ : Sg) (q : (Int32 × Sg)), f_X12_spreadsOf_50 s1 s2 s3 σ = some q → AW κ pX12_spreadsOf 5 (some (aI q.1), q.2) 50 [none, none] [aI s3, aI s2, aI s1, aR 12 0 0] σ := by
  intro s1 s2 s3 σ q h
  unfold f_X12_spreadsOf_50 at h
  refine aw_seq [(.bipush 10, 2, (axI 10))] (pc' := 52) (L' := [none, none]) (stk' := [aI 10, aI s3, aI s2, aI s1, aR 12 0 0]) (σ' := σ) (g := []) (by decide +kernel) rfl rfl ?_
  obtain ⟨r3, σ2, h1, h⟩ := bnd_some h
  refine aw_cV (P' := pX12_says) (idx := 312) (d' := 4) (c := 12) (n := 0) (k := 0) [aI s1, aI s2, aI s3, aI 10] [] (ov := (some (aI r3))) (stk2 := [aI r3]) okp_X12_says (by decide +kernel) ml_RX12_312 vok_X12_says (by decide) rfl nar_X12_says (by decide) rfl (Nat.le_of_ble_eq_true rfl) (ok_X12_says h1) rfl ?_
  cases h
  exact aw_iret rfl (by decide +kernel)
def f_X12_spreadsOf (v1 : Int32) (σ : Sg) : Option (Int32 × Sg) :=
  bndV (f_X12_name v1 σ) fun σ5 =>
  grd (inb 2 1986 && true) <|
  bnd (f_X12_get v1 0 σ5) fun r8 σ7 =>
  if r8 = 2 then (
    bnd (f_X12_get v1 3 σ7) fun r14 σ13 =>
    grd ((!decide ((2 : Int32) = 0)) && (inb 7 9 && true)) <|
    f_X12_spreadsOf_50 (σ5.1 1 (ix 2)) 1 ((r14 / 2) + (σ13.1 6 (ix 7))) σ13
  ) else (
    bnd (f_X12_get v1 3 σ7) fun r11 σ10 =>
    grd ((!decide ((4 : Int32) = 0)) && true) <|
    f_X12_spreadsOf_50 (σ5.1 1 (ix 2)) 1 (r11 / 4) σ10
  )
set_option maxRecDepth 100000 in
set_option maxHeartbeats 4000000 in
theorem ok_X12_spreadsOf {κ : Kd} {v1 : Int32} {σ : Sg} {q : (Int32 × Sg)} (h : f_X12_spreadsOf v1 σ = some q) : AMet κ pX12_spreadsOf 5 [aR 12 0 0, aI v1] σ (some (aI q.1), q.2) := by
  unfold f_X12_spreadsOf at h
  refine amet_of okp_X12_spreadsOf [(false, aR 12 0 0), (false, aI v1)] (List.forall_mem_cons.mpr ⟨rfl, List.forall_mem_cons.mpr ⟨rfl, (fun _ hn => absurd hn List.not_mem_nil)⟩⟩) 0 rfl ?_
  show AW κ pX12_spreadsOf 5 (some (aI q.1), q.2) 0 [some (aR 12 0 0), some (aI v1)] [] σ
  refine aw_seq [(.aload_n 0, 1, ax0), (.iload_n 1, 1, ax0)] (pc' := 2) (L' := [some (aR 12 0 0), some (aI v1)]) (stk' := [aI v1, aR 12 0 0]) (σ' := σ) (g := []) (by decide +kernel) rfl rfl ?_
  obtain ⟨σ5, h4, h⟩ := bndV_some h
  refine aw_cV (P' := pX12_name) (idx := 309) (d' := 4) (c := 12) (n := 0) (k := 0) [aI v1] [] (ov := none) (stk2 := []) okp_X12_name (by decide +kernel) ml_RX12_309 vok_X12_name (by decide) rfl nar_X12_name (by decide) rfl (Nat.le_of_ble_eq_true rfl) (ok_X12_name h4) rfl ?_
  obtain ⟨hg, h⟩ := grd_some h
  refine aw_seq [(.aload_n 0, 1, ax0), (.aload_n 0, 1, ax0), (.getfield 7, 3, (axF 12 0 (2, 1, 13, some 1986))), (.iconst 2, 1, (axI 2)), (.iaload, 1, ax0), (.iconst 1, 1, (axI 1)), (.aload_n 0, 1, ax0), (.iload_n 1, 1, ax0), (.iconst 0, 1, (axI 0))] (pc' := 16) (L' := [some (aR 12 0 0), some (aI v1)]) (stk' := [aI 0, aI v1, aR 12 0 0, aI 1, aI (σ5.1 1 (ix 2)), aR 12 0 0]) (σ' := σ5) (g := [inb 2 1986]) (by decide +kernel) rfl hg ?_
  obtain ⟨r8, σ7, h6, h⟩ := bnd_some h
  refine aw_cV (P' := pX12_get) (idx := 77) (d' := 1) (c := 12) (n := 0) (k := 0) [aI v1, aI 0] [aI 1, aI (σ5.1 1 (ix 2)), aR 12 0 0] (ov := (some (aI r8))) (stk2 := [aI r8, aI 1, aI (σ5.1 1 (ix 2)), aR 12 0 0]) okp_X12_get (by decide +kernel) ml_RX12_77 vok_X12_get (by decide) rfl nar_X12_get (by decide) rfl (Nat.le_of_ble_eq_true rfl) (ok_X12_get h6) rfl ?_
  refine aw_seq [(.iconst 2, 1, (axI 2))] (pc' := 20) (L' := [some (aR 12 0 0), some (aI v1)]) (stk' := [aI 2, aI r8, aI 1, aI (σ5.1 1 (ix 2)), aR 12 0 0]) (σ' := σ7) (g := []) (by decide +kernel) rfl rfl ?_
  refine aw_icmp_ne (off := 22) (tgt := 42) (by decide +kernel) (by decide) (fun c1 => ?_) (fun c1 => ?_)
  · rw [if_neg c1] at h
    refine aw_seq [(.aload_n 0, 1, ax0), (.iload_n 1, 1, ax0), (.iconst 3, 1, (axI 3))] (pc' := 45) (L' := [some (aR 12 0 0), some (aI v1)]) (stk' := [aI 3, aI v1, aR 12 0 0, aI 1, aI (σ5.1 1 (ix 2)), aR 12 0 0]) (σ' := σ7) (g := []) (by decide +kernel) rfl rfl ?_
    obtain ⟨r11, σ10, h9, h⟩ := bnd_some h
    refine aw_cV (P' := pX12_get) (idx := 77) (d' := 1) (c := 12) (n := 0) (k := 0) [aI v1, aI 3] [aI 1, aI (σ5.1 1 (ix 2)), aR 12 0 0] (ov := (some (aI r11))) (stk2 := [aI r11, aI 1, aI (σ5.1 1 (ix 2)), aR 12 0 0]) okp_X12_get (by decide +kernel) ml_RX12_77 vok_X12_get (by decide) rfl nar_X12_get (by decide) rfl (Nat.le_of_ble_eq_true rfl) (ok_X12_get h9) rfl ?_
    obtain ⟨hg, h⟩ := grd_some h
    refine aw_seq [(.iconst 4, 1, (axI 4)), (.idiv, 1, ax0)] (pc' := 50) (L' := [some (aR 12 0 0), some (aI v1)]) (stk' := [aI (r11 / 4), aI 1, aI (σ5.1 1 (ix 2)), aR 12 0 0]) (σ' := σ10) (g := [(!decide ((4 : Int32) = 0))]) (by decide +kernel) rfl hg ?_
    refine aw_forget (L' := [none, none]) (lsub_n (lsub_n (lsub_0))) ?_
    exact ok_X12_spreadsOf_50 (σ5.1 1 (ix 2)) 1 (r11 / 4) σ10 _ h
  · rw [if_pos c1] at h
    refine aw_seq [(.aload_n 0, 1, ax0), (.iload_n 1, 1, ax0), (.iconst 3, 1, (axI 3))] (pc' := 26) (L' := [some (aR 12 0 0), some (aI v1)]) (stk' := [aI 3, aI v1, aR 12 0 0, aI 1, aI (σ5.1 1 (ix 2)), aR 12 0 0]) (σ' := σ7) (g := []) (by decide +kernel) rfl rfl ?_
    obtain ⟨r14, σ13, h12, h⟩ := bnd_some h
    refine aw_cV (P' := pX12_get) (idx := 77) (d' := 1) (c := 12) (n := 0) (k := 0) [aI v1, aI 3] [aI 1, aI (σ5.1 1 (ix 2)), aR 12 0 0] (ov := (some (aI r14))) (stk2 := [aI r14, aI 1, aI (σ5.1 1 (ix 2)), aR 12 0 0]) okp_X12_get (by decide +kernel) ml_RX12_77 vok_X12_get (by decide) rfl nar_X12_get (by decide) rfl (Nat.le_of_ble_eq_true rfl) (ok_X12_get h12) rfl ?_
    obtain ⟨hg, h⟩ := grd_some h
    refine aw_seq [(.iconst 2, 1, (axI 2)), (.idiv, 1, ax0), (.aload_n 0, 1, ax0), (.getfield 32, 3, (axF 12 20 (2, 6, 13, some 9))), (.bipush 7, 2, (axI 7)), (.iaload, 1, ax0), (.iadd, 1, ax0)] (pc' := 39) (L' := [some (aR 12 0 0), some (aI v1)]) (stk' := [aI ((r14 / 2) + (σ13.1 6 (ix 7))), aI 1, aI (σ5.1 1 (ix 2)), aR 12 0 0]) (σ' := σ13) (g := [(!decide ((2 : Int32) = 0)), inb 7 9]) (by decide +kernel) rfl hg ?_
    refine aw_goto (off := 11) (tgt := 50) (by decide +kernel) (by decide) ?_
    refine aw_forget (L' := [none, none]) (lsub_n (lsub_n (lsub_0))) ?_
    exact ok_X12_spreadsOf_50 (σ5.1 1 (ix 2)) 1 ((r14 / 2) + (σ13.1 6 (ix 7))) σ13 _ h
def f_X12_fineOf (v1 : Int32) (σ : Sg) : Option (Int32 × Sg) :=
  bndV (f_X12_name v1 σ) fun σ2 =>
  grd (inb 2 1986 && true) <|
  bnd (f_X12_says (σ2.1 1 (ix 2)) 2 10 9999 σ2) fun r5 σ4 =>
  some (r5, σ4)
set_option maxRecDepth 100000 in
set_option maxHeartbeats 4000000 in
theorem ok_X12_fineOf {κ : Kd} {v1 : Int32} {σ : Sg} {q : (Int32 × Sg)} (h : f_X12_fineOf v1 σ = some q) : AMet κ pX12_fineOf 5 [aR 12 0 0, aI v1] σ (some (aI q.1), q.2) := by
  unfold f_X12_fineOf at h
  refine amet_of okp_X12_fineOf [(false, aR 12 0 0), (false, aI v1)] (List.forall_mem_cons.mpr ⟨rfl, List.forall_mem_cons.mpr ⟨rfl, (fun _ hn => absurd hn List.not_mem_nil)⟩⟩) 0 rfl ?_
  show AW κ pX12_fineOf 5 (some (aI q.1), q.2) 0 [some (aR 12 0 0), some (aI v1)] [] σ
  refine aw_seq [(.aload_n 0, 1, ax0), (.iload_n 1, 1, ax0)] (pc' := 2) (L' := [some (aR 12 0 0), some (aI v1)]) (stk' := [aI v1, aR 12 0 0]) (σ' := σ) (g := []) (by decide +kernel) rfl rfl ?_
  obtain ⟨σ2, h1, h⟩ := bndV_some h
  refine aw_cV (P' := pX12_name) (idx := 309) (d' := 4) (c := 12) (n := 0) (k := 0) [aI v1] [] (ov := none) (stk2 := []) okp_X12_name (by decide +kernel) ml_RX12_309 vok_X12_name (by decide) rfl nar_X12_name (by decide) rfl (Nat.le_of_ble_eq_true rfl) (ok_X12_name h1) rfl ?_
  obtain ⟨hg, h⟩ := grd_some h
  refine aw_seq [(.aload_n 0, 1, ax0), (.aload_n 0, 1, ax0), (.getfield 7, 3, (axF 12 0 (2, 1, 13, some 1986))), (.iconst 2, 1, (axI 2)), (.iaload, 1, ax0), (.iconst 2, 1, (axI 2)), (.bipush 10, 2, (axI 10)), (.sipush 9999, 3, (axI 9999))] (pc' := 18) (L' := [some (aR 12 0 0), some (aI v1)]) (stk' := [aI 9999, aI 10, aI 2, aI (σ2.1 1 (ix 2)), aR 12 0 0]) (σ' := σ2) (g := [inb 2 1986]) (by decide +kernel) rfl hg ?_
  obtain ⟨r5, σ4, h3, h⟩ := bnd_some h
  refine aw_cV (P' := pX12_says) (idx := 312) (d' := 4) (c := 12) (n := 0) (k := 0) [aI (σ2.1 1 (ix 2)), aI 2, aI 10, aI 9999] [] (ov := (some (aI r5))) (stk2 := [aI r5]) okp_X12_says (by decide +kernel) ml_RX12_312 vok_X12_says (by decide) rfl nar_X12_says (by decide) rfl (Nat.le_of_ble_eq_true rfl) (ok_X12_says h3) rfl ?_
  cases h
  exact aw_iret rfl (by decide +kernel)
def f_X12_write_67   (v1 : Int32) (v2 : Int32) (σ : Sg) : Option Sg :=
  grd (inb 9 1986 && (inb 6 1986 && (inb (1956 + (σ.1 1 (ix 9))) 1986 && true))) <|
  ltσ (wI σ 1 (ix (1956 + (σ.1 1 (ix 9)))) (((((σ.1 1 (ix 6)) * 8) + v1) * 8) + v2)) fun σ1 =>
  grd (inb 9 1986 && (inb 9 1986 && true)) <|
  ltσ (wI σ1 1 (ix 9) ((σ1.1 1 (ix 9)) + 1)) fun σ3 =>
  some σ3
set_option maxRecDepth 100000 in
set_option maxHeartbeats 4000000 in
theorem ok_X12_write_67 {κ : Kd}    : ∀ (v1 : Int32) (v2 : Int32) (σ : Sg) (q : Sg), f_X12_write_67 v1 v2 σ = some q → AW κ pX12_write 1 (none, q) 67 [some (aR 12 0 0), some (aI v1), some (aI v2), none] [] σ := by
  intro v1 v2 σ q h
  unfold f_X12_write_67 at h
  obtain ⟨hg, h⟩ := grd_some h
  obtain ⟨σ1, e2, h⟩ := ltσ_some h
  refine aw_seq [(.aload_n 0, 1, ax0), (.getfield 7, 3, (axF 12 0 (2, 1, 13, some 1986))), (.sipush 1956, 3, (axI 1956)), (.aload_n 0, 1, ax0), (.getfield 7, 3, (axF 12 0 (2, 1, 13, some 1986))), (.bipush 9, 2, (axI 9)), (.iaload, 1, ax0), (.iadd, 1, ax0), (.aload_n 0, 1, ax0), (.getfield 7, 3, (axF 12 0 (2, 1, 13, some 1986))), (.bipush 6, 2, (axI 6)), (.iaload, 1, ax0), (.bipush 8, 2, (axI 8)), (.imul, 1, ax0), (.iload_n 1, 1, ax0), (.iadd, 1, ax0), (.bipush 8, 2, (axI 8)), (.imul, 1, ax0), (.iload_n 2, 1, ax0), (.iadd, 1, ax0), (.iastore, 1, ax0)] (pc' := 100) (L' := [some (aR 12 0 0), some (aI v1), some (aI v2), none]) (stk' := []) (σ' := σ1) (g := [inb 9 1986, inb 6 1986, inb (1956 + (σ.1 1 (ix 9))) 1986]) (by decide +kernel) (by rw [e2]; rfl) hg ?_
  obtain ⟨hg, h⟩ := grd_some h
  obtain ⟨σ3, e4, h⟩ := ltσ_some h
  refine aw_seq [(.aload_n 0, 1, ax0), (.getfield 7, 3, (axF 12 0 (2, 1, 13, some 1986))), (.bipush 9, 2, (axI 9)), (.dup2, 1, ax0), (.iaload, 1, ax0), (.iconst 1, 1, (axI 1)), (.iadd, 1, ax0), (.iastore, 1, ax0)] (pc' := 111) (L' := [some (aR 12 0 0), some (aI v1), some (aI v2), none]) (stk' := []) (σ' := σ3) (g := [inb 9 1986, inb 9 1986]) (by decide +kernel) (by rw [e4]; rfl) hg ?_
  cases h
  exact aw_vret rfl (by decide +kernel)
def f_X12_write_22   : Nat → Int32 → Int32 → Int32 → Sg → Option Sg
  | 0, _, _, _, _ => none
  | fu + 1, v1, v2, v3, σ =>
    if 30 ≤ v3 then (
      grd (inb 9 1986 && (inb 9 1986 && true)) <|
      ltσ (wI σ 1 (ix 9) ((σ.1 1 (ix 9)) - 1)) fun σ5 =>
      f_X12_write_67 v1 v2 σ5
    ) else (
      grd (inb (1956 + v3) 1986 && (inb ((1956 + v3) - 1) 1986 && true)) <|
      ltσ (wI σ 1 (ix ((1956 + v3) - 1)) (σ.1 1 (ix (1956 + v3)))) fun σ7 =>
      (f_X12_write_22 fu) v1 v2 (v3 + 1) σ7
    )
set_option maxRecDepth 100000 in
set_option maxHeartbeats 4000000 in
theorem ok_X12_write_22 {κ : Kd}    : ∀ (fu : Nat) (v1 : Int32) (v2 : Int32) (v3 : Int32) (σ : Sg) (q : Sg), f_X12_write_22 fu v1 v2 v3 σ = some q → AW κ pX12_write 1 (none, q) 22 [some (aR 12 0 0), some (aI v1), some (aI v2), some (aI v3)] [] σ := by
  intro fu
  induction fu with
  | zero =>
    intro v1 v2 v3 σ q h
    unfold f_X12_write_22 at h
    cases h
  | succ fu ih =>
    intro v1 v2 v3 σ q h
    unfold f_X12_write_22 at h
    refine aw_seq [(.iload_n 3, 1, ax0), (.bipush 30, 2, (axI 30))] (pc' := 25) (L' := [some (aR 12 0 0), some (aI v1), some (aI v2), some (aI v3)]) (stk' := [aI 30, aI v3]) (σ' := σ) (g := []) (by decide +kernel) rfl rfl ?_
    refine aw_icmp_ge (off := 31) (tgt := 56) (by decide +kernel) (by decide) (fun c1 => ?_) (fun c1 => ?_)
    · rw [if_pos c1] at h
      obtain ⟨hg, h⟩ := grd_some h
      obtain ⟨σ5, e6, h⟩ := ltσ_some h
      refine aw_seq [(.aload_n 0, 1, ax0), (.getfield 7, 3, (axF 12 0 (2, 1, 13, some 1986))), (.bipush 9, 2, (axI 9)), (.dup2, 1, ax0), (.iaload, 1, ax0), (.iconst 1, 1, (axI 1)), (.isub, 1, ax0), (.iastore, 1, ax0)] (pc' := 67) (L' := [some (aR 12 0 0), some (aI v1), some (aI v2), some (aI v3)]) (stk' := []) (σ' := σ5) (g := [inb 9 1986, inb 9 1986]) (by decide +kernel) (by rw [e6]; rfl) hg ?_
      refine aw_forget (L' := [some (aR 12 0 0), some (aI v1), some (aI v2), none]) (lsub_s (lsub_s (lsub_s (lsub_n (lsub_0))))) ?_
      exact ok_X12_write_67 v1 v2 σ5 _ h
    · rw [if_neg c1] at h
      obtain ⟨hg, h⟩ := grd_some h
      obtain ⟨σ7, e8, h⟩ := ltσ_some h
      refine aw_seq [(.aload_n 0, 1, ax0), (.getfield 7, 3, (axF 12 0 (2, 1, 13, some 1986))), (.sipush 1956, 3, (axI 1956)), (.iload_n 3, 1, ax0), (.iadd, 1, ax0), (.iconst 1, 1, (axI 1)), (.isub, 1, ax0), (.aload_n 0, 1, ax0), (.getfield 7, 3, (axF 12 0 (2, 1, 13, some 1986))), (.sipush 1956, 3, (axI 1956)), (.iload_n 3, 1, ax0), (.iadd, 1, ax0), (.iaload, 1, ax0), (.iastore, 1, ax0)] (pc' := 50) (L' := [some (aR 12 0 0), some (aI v1), some (aI v2), some (aI v3)]) (stk' := []) (σ' := σ7) (g := [inb (1956 + v3) 1986, inb ((1956 + v3) - 1) 1986]) (by decide +kernel) (by rw [e8]; rfl) hg ?_
      refine aw_seq [(.iinc 3 1, 3, (axI 1))] (pc' := 53) (L' := [some (aR 12 0 0), some (aI v1), some (aI v2), some (aI (v3 + 1))]) (stk' := []) (σ' := σ7) (g := []) (by decide +kernel) rfl rfl ?_
      refine aw_goto (off := (-31)) (tgt := 22) (by decide +kernel) (by decide) ?_
      refine aw_forget (L' := [some (aR 12 0 0), some (aI v1), some (aI v2), some (aI (v3 + 1))]) (lsub_s (lsub_s (lsub_s (lsub_s (lsub_0))))) ?_
      exact ih v1 v2 (v3 + 1) σ7 _ h
def f_X12_write (v1 : Int32) (v2 : Int32) (σ : Sg) : Option Sg :=
  if (σ.1 0 24) = 0 then (
    some σ
  ) else (
    grd (inb 9 1986 && true) <|
    if (σ.1 1 (ix 9)) = 30 then (
      f_X12_write_22 FU v1 v2 1 σ
    ) else (
      f_X12_write_67 v1 v2 σ
    )
  )
set_option maxRecDepth 100000 in
set_option maxHeartbeats 4000000 in
theorem ok_X12_write {κ : Kd} {v1 : Int32} {v2 : Int32} {σ : Sg} {q : Sg} (h : f_X12_write v1 v2 σ = some q) : AMet κ pX12_write 1 [aR 12 0 0, aI v1, aI v2] σ (none, q) := by
  unfold f_X12_write at h
  refine amet_of okp_X12_write [(false, aR 12 0 0), (false, aI v1), (false, aI v2)] (List.forall_mem_cons.mpr ⟨rfl, List.forall_mem_cons.mpr ⟨rfl, List.forall_mem_cons.mpr ⟨rfl, (fun _ hn => absurd hn List.not_mem_nil)⟩⟩⟩) 1 rfl ?_
  show AW κ pX12_write 1 (none, q) 0 [some (aR 12 0 0), some (aI v1), some (aI v2), none] [] σ
  refine aw_seq [(.aload_n 0, 1, ax0), (.getfield 43, 3, (axF 12 24 (3, 0, 0, none)))] (pc' := 4) (L' := [some (aR 12 0 0), some (aI v1), some (aI v2), none]) (stk' := [aI (σ.1 0 24)]) (σ' := σ) (g := []) (by decide +kernel) rfl rfl ?_
  refine aw_if_ne (off := 4) (tgt := 8) (by decide +kernel) (by decide) (fun c1 => ?_) (fun c1 => ?_)
  · rw [if_neg c1] at h
    obtain ⟨hg, h⟩ := grd_some h
    refine aw_seq [(.aload_n 0, 1, ax0), (.getfield 7, 3, (axF 12 0 (2, 1, 13, some 1986))), (.bipush 9, 2, (axI 9)), (.iaload, 1, ax0), (.bipush 30, 2, (axI 30))] (pc' := 17) (L' := [some (aR 12 0 0), some (aI v1), some (aI v2), none]) (stk' := [aI 30, aI (σ.1 1 (ix 9))]) (σ' := σ) (g := [inb 9 1986]) (by decide +kernel) rfl hg ?_
    refine aw_icmp_ne (off := 50) (tgt := 67) (by decide +kernel) (by decide) (fun c1 => ?_) (fun c1 => ?_)
    · rw [if_neg c1] at h
      refine aw_forget (L' := [some (aR 12 0 0), some (aI v1), some (aI v2), none]) (lsub_s (lsub_s (lsub_s (lsub_n (lsub_0))))) ?_
      exact ok_X12_write_67 v1 v2 σ _ h
    · rw [if_pos c1] at h
      refine aw_seq [(.iconst 1, 1, (axI 1)), (.istore_n 3, 1, ax0)] (pc' := 22) (L' := [some (aR 12 0 0), some (aI v1), some (aI v2), some (aI 1)]) (stk' := []) (σ' := σ) (g := []) (by decide +kernel) rfl rfl ?_
      refine aw_forget (L' := [some (aR 12 0 0), some (aI v1), some (aI v2), some (aI 1)]) (lsub_s (lsub_s (lsub_s (lsub_s (lsub_0))))) ?_
      exact ok_X12_write_22 FU v1 v2 1 σ _ h
  · rw [if_pos c1] at h
    cases h
    exact aw_vret rfl (by decide +kernel)
def f_X12_anew  (σ : Sg) : Option Sg :=
  grd (inb 8 1986 && ((!decide ((30497 : Int64) = 0)) && (inb 8 1986 && true))) <|
  ltσ (wI σ 1 (ix 8) (Int64.toInt32 (jlrem (((Int32.toInt64 (σ.1 1 (ix 8))) * 397) + 277) 30497))) fun σ1 =>
  some σ1
set_option maxRecDepth 100000 in
set_option maxHeartbeats 4000000 in
theorem ok_X12_anew {κ : Kd}  {σ : Sg} {q : Sg} (h : f_X12_anew σ = some q) : AMet κ pX12_anew 1 [aR 12 0 0] σ (none, q) := by
  unfold f_X12_anew at h
  refine amet_of okp_X12_anew [(false, aR 12 0 0)] (List.forall_mem_cons.mpr ⟨rfl, (fun _ hn => absurd hn List.not_mem_nil)⟩) 0 rfl ?_
  show AW κ pX12_anew 1 (none, q) 0 [some (aR 12 0 0)] [] σ
  obtain ⟨hg, h⟩ := grd_some h
  obtain ⟨σ1, e2, h⟩ := ltσ_some h
  refine aw_seq [(.aload_n 0, 1, ax0), (.getfield 7, 3, (axF 12 0 (2, 1, 13, some 1986))), (.bipush 8, 2, (axI 8)), (.aload_n 0, 1, ax0), (.getfield 7, 3, (axF 12 0 (2, 1, 13, some 1986))), (.bipush 8, 2, (axI 8)), (.iaload, 1, ax0), (.i2l, 1, ax0), (.ldc2_w 319, 3, (axL 397)), (.lmul, 1, ax0), (.ldc2_w 321, 3, (axL 277)), (.ladd, 1, ax0), (.ldc2_w 323, 3, (axL 30497)), (.lrem, 1, ax0), (.l2i, 1, ax0), (.iastore, 1, ax0)] (pc' := 28) (L' := [some (aR 12 0 0)]) (stk' := []) (σ' := σ1) (g := [inb 8 1986, (!decide ((30497 : Int64) = 0)), inb 8 1986]) (by decide +kernel) (by rw [e2]; rfl) hg ?_
  cases h
  exact aw_vret rfl (by decide +kernel)
def f_X12_drawn  (σ : Sg) : Option (Int32 × Sg) :=
  grd (inb 8 1986 && ((!decide ((10 : Int32) = 0)) && true)) <|
  bndV (f_X12_anew σ) fun σ2 =>
  some ((jrem (σ.1 1 (ix 8)) 10), σ2)
set_option maxRecDepth 100000 in
set_option maxHeartbeats 4000000 in
theorem ok_X12_drawn {κ : Kd}  {σ : Sg} {q : (Int32 × Sg)} (h : f_X12_drawn σ = some q) : AMet κ pX12_drawn 2 [aR 12 0 0] σ (some (aI q.1), q.2) := by
  unfold f_X12_drawn at h
  refine amet_of okp_X12_drawn [(false, aR 12 0 0)] (List.forall_mem_cons.mpr ⟨rfl, (fun _ hn => absurd hn List.not_mem_nil)⟩) 1 rfl ?_
  show AW κ pX12_drawn 2 (some (aI q.1), q.2) 0 [some (aR 12 0 0), none] [] σ
  obtain ⟨hg, h⟩ := grd_some h
  refine aw_seq [(.aload_n 0, 1, ax0), (.getfield 7, 3, (axF 12 0 (2, 1, 13, some 1986))), (.bipush 8, 2, (axI 8)), (.iaload, 1, ax0), (.bipush 10, 2, (axI 10)), (.irem, 1, ax0), (.istore_n 1, 1, ax0), (.aload_n 0, 1, ax0)] (pc' := 12) (L' := [some (aR 12 0 0), some (aI (jrem (σ.1 1 (ix 8)) 10))]) (stk' := [aR 12 0 0]) (σ' := σ) (g := [inb 8 1986, (!decide ((10 : Int32) = 0))]) (by decide +kernel) rfl hg ?_
  obtain ⟨σ2, h1, h⟩ := bndV_some h
  refine aw_cV (P' := pX12_anew) (idx := 316) (d' := 1) (c := 12) (n := 0) (k := 0) [] [] (ov := none) (stk2 := []) okp_X12_anew (by decide +kernel) ml_RX12_316 vok_X12_anew (by decide) rfl nar_X12_anew (by decide) rfl (Nat.le_of_ble_eq_true rfl) (ok_X12_anew h1) rfl ?_
  refine aw_seq [(.iload_n 1, 1, ax0)] (pc' := 16) (L' := [some (aR 12 0 0), some (aI (jrem (σ.1 1 (ix 8)) 10))]) (stk' := [aI (jrem (σ.1 1 (ix 8)) 10)]) (σ' := σ2) (g := []) (by decide +kernel) rfl rfl ?_
  cases h
  exact aw_iret rfl (by decide +kernel)
def f_X12_isAlight_25   (s0 : Int32) (σ : Sg) : Option (Int32 × Sg) :=
  grd (bz s0) <| some (s0, σ)
set_option maxRecDepth 100000 in
set_option maxHeartbeats 4000000 in
theorem ok_X12_isAlight_25 {κ : Kd}    : ∀ (s0 : Int32) (σ : Sg) (q : (Int32 × Sg)), f_X12_isAlight_25 s0 σ = some q → AW κ pX12_isAlight 2 (some (aI q.1), q.2) 25 [none, none] [aI s0] σ := by
  intro s0 σ q h
  unfold f_X12_isAlight_25 at h
  obtain ⟨hg, h⟩ := grd_some h
  cases h
  exact aw_zret rfl hg (by decide +kernel)
def f_X12_isAlight_20    (σ : Sg) : Option (Int32 × Sg) :=
  f_X12_isAlight_25 1 σ
set_option maxRecDepth 100000 in
set_option maxHeartbeats 4000000 in
theorem ok_X12_isAlight_20 {κ : Kd}    : ∀  (σ : Sg) (q : (Int32 × Sg)), f_X12_isAlight_20  σ = some q → AW κ pX12_isAlight 2 (some (aI q.1), q.2) 20 [none, none] [] σ := by
  intro  σ q h
  unfold f_X12_isAlight_20 at h
  refine aw_seq [(.iconst 1, 1, (axI 1))] (pc' := 21) (L' := [none, none]) (stk' := [aI 1]) (σ' := σ) (g := []) (by decide +kernel) rfl rfl ?_
  refine aw_goto (off := 4) (tgt := 25) (by decide +kernel) (by decide) ?_
  refine aw_forget (L' := [none, none]) (lsub_n (lsub_n (lsub_0))) ?_
  exact ok_X12_isAlight_25 1 σ _ h
def f_X12_isAlight (v1 : Int32) (σ : Sg) : Option (Int32 × Sg) :=
  bnd (f_X12_get v1 0 σ) fun r3 σ2 =>
  if r3 = 1 then (
    f_X12_isAlight_20 σ2
  ) else (
    bnd (f_X12_get v1 0 σ2) fun r6 σ5 =>
    if r6 = 2 then (
      f_X12_isAlight_20 σ5
    ) else (
      f_X12_isAlight_25 0 σ5
    )
  )
set_option maxRecDepth 100000 in
set_option maxHeartbeats 4000000 in
theorem ok_X12_isAlight {κ : Kd} {v1 : Int32} {σ : Sg} {q : (Int32 × Sg)} (h : f_X12_isAlight v1 σ = some q) : AMet κ pX12_isAlight 2 [aR 12 0 0, aI v1] σ (some (aI q.1), q.2) := by
  unfold f_X12_isAlight at h
  refine amet_of okp_X12_isAlight [(false, aR 12 0 0), (false, aI v1)] (List.forall_mem_cons.mpr ⟨rfl, List.forall_mem_cons.mpr ⟨rfl, (fun _ hn => absurd hn List.not_mem_nil)⟩⟩) 0 rfl ?_
  show AW κ pX12_isAlight 2 (some (aI q.1), q.2) 0 [some (aR 12 0 0), some (aI v1)] [] σ
  refine aw_seq [(.aload_n 0, 1, ax0), (.iload_n 1, 1, ax0), (.iconst 0, 1, (axI 0))] (pc' := 3) (L' := [some (aR 12 0 0), some (aI v1)]) (stk' := [aI 0, aI v1, aR 12 0 0]) (σ' := σ) (g := []) (by decide +kernel) rfl rfl ?_
  obtain ⟨r3, σ2, h1, h⟩ := bnd_some h
  refine aw_cV (P' := pX12_get) (idx := 77) (d' := 1) (c := 12) (n := 0) (k := 0) [aI v1, aI 0] [] (ov := (some (aI r3))) (stk2 := [aI r3]) okp_X12_get (by decide +kernel) ml_RX12_77 vok_X12_get (by decide) rfl nar_X12_get (by decide) rfl (Nat.le_of_ble_eq_true rfl) (ok_X12_get h1) rfl ?_
  refine aw_seq [(.iconst 1, 1, (axI 1))] (pc' := 7) (L' := [some (aR 12 0 0), some (aI v1)]) (stk' := [aI 1, aI r3]) (σ' := σ2) (g := []) (by decide +kernel) rfl rfl ?_
  refine aw_icmp_eq (off := 13) (tgt := 20) (by decide +kernel) (by decide) (fun c1 => ?_) (fun c1 => ?_)
  · rw [if_pos c1] at h
    refine aw_forget (L' := [none, none]) (lsub_n (lsub_n (lsub_0))) ?_
    exact ok_X12_isAlight_20 σ2 _ h
  · rw [if_neg c1] at h
    refine aw_seq [(.aload_n 0, 1, ax0), (.iload_n 1, 1, ax0), (.iconst 0, 1, (axI 0))] (pc' := 13) (L' := [some (aR 12 0 0), some (aI v1)]) (stk' := [aI 0, aI v1, aR 12 0 0]) (σ' := σ2) (g := []) (by decide +kernel) rfl rfl ?_
    obtain ⟨r6, σ5, h4, h⟩ := bnd_some h
    refine aw_cV (P' := pX12_get) (idx := 77) (d' := 1) (c := 12) (n := 0) (k := 0) [aI v1, aI 0] [] (ov := (some (aI r6))) (stk2 := [aI r6]) okp_X12_get (by decide +kernel) ml_RX12_77 vok_X12_get (by decide) rfl nar_X12_get (by decide) rfl (Nat.le_of_ble_eq_true rfl) (ok_X12_get h4) rfl ?_
    refine aw_seq [(.iconst 2, 1, (axI 2))] (pc' := 17) (L' := [some (aR 12 0 0), some (aI v1)]) (stk' := [aI 2, aI r6]) (σ' := σ5) (g := []) (by decide +kernel) rfl rfl ?_
    refine aw_icmp_ne (off := 7) (tgt := 24) (by decide +kernel) (by decide) (fun c1 => ?_) (fun c1 => ?_)
    · rw [if_neg c1] at h
      refine aw_seq [(.iconst 0, 1, (axI 0))] (pc' := 25) (L' := [some (aR 12 0 0), some (aI v1)]) (stk' := [aI 0]) (σ' := σ5) (g := []) (by decide +kernel) rfl rfl ?_
      refine aw_forget (L' := [none, none]) (lsub_n (lsub_n (lsub_0))) ?_
      exact ok_X12_isAlight_25 0 σ5 _ h
    · rw [if_pos c1] at h
      refine aw_forget (L' := [none, none]) (lsub_n (lsub_n (lsub_0))) ?_
      exact ok_X12_isAlight_20 σ5 _ h
def f_X12_cool (v1 : Int32) (σ : Sg) : Option Sg :=
  bnd (f_X12_get v1 1 σ) fun r3 σ2 =>
  grd (inb 2 1986 && true) <|
  bnd (f_X12_coolsOf (σ2.1 1 (ix 2)) v1 σ2) fun r6 σ5 =>
  bnd (f_X12_cut (Int32.toInt64 (r3 - r6)) 0 9 σ5) fun r9 σ8 =>
  bndV (f_X12_put v1 1 r9 σ8) fun σ11 =>
  bnd (f_X12_get v1 1 σ11) fun r14 σ13 =>
  if r14 ≤ 0 then (
    bndV (f_X12_put v1 0 0 σ13) fun σ16 =>
    bndV (f_X12_write v1 2 σ16) fun σ18 =>
    some σ18
  ) else (
    some σ13
  )
set_option maxRecDepth 100000 in
set_option maxHeartbeats 4000000 in
theorem ok_X12_cool {κ : Kd} {v1 : Int32} {σ : Sg} {q : Sg} (h : f_X12_cool v1 σ = some q) : AMet κ pX12_cool 6 [aR 12 0 0, aI v1] σ (none, q) := by
  unfold f_X12_cool at h
  refine amet_of okp_X12_cool [(false, aR 12 0 0), (false, aI v1)] (List.forall_mem_cons.mpr ⟨rfl, List.forall_mem_cons.mpr ⟨rfl, (fun _ hn => absurd hn List.not_mem_nil)⟩⟩) 0 rfl ?_
  show AW κ pX12_cool 6 (none, q) 0 [some (aR 12 0 0), some (aI v1)] [] σ
  refine aw_seq [(.aload_n 0, 1, ax0), (.iload_n 1, 1, ax0), (.iconst 1, 1, (axI 1)), (.aload_n 0, 1, ax0), (.iload_n 1, 1, ax0), (.iconst 1, 1, (axI 1))] (pc' := 6) (L' := [some (aR 12 0 0), some (aI v1)]) (stk' := [aI 1, aI v1, aR 12 0 0, aI 1, aI v1, aR 12 0 0]) (σ' := σ) (g := []) (by decide +kernel) rfl rfl ?_
  obtain ⟨r3, σ2, h1, h⟩ := bnd_some h
  refine aw_cV (P' := pX12_get) (idx := 77) (d' := 1) (c := 12) (n := 0) (k := 0) [aI v1, aI 1] [aI 1, aI v1, aR 12 0 0] (ov := (some (aI r3))) (stk2 := [aI r3, aI 1, aI v1, aR 12 0 0]) okp_X12_get (by decide +kernel) ml_RX12_77 vok_X12_get (by decide) rfl nar_X12_get (by decide) rfl (Nat.le_of_ble_eq_true rfl) (ok_X12_get h1) rfl ?_
  obtain ⟨hg, h⟩ := grd_some h
  refine aw_seq [(.aload_n 0, 1, ax0), (.aload_n 0, 1, ax0), (.getfield 7, 3, (axF 12 0 (2, 1, 13, some 1986))), (.iconst 2, 1, (axI 2)), (.iaload, 1, ax0), (.iload_n 1, 1, ax0)] (pc' := 17) (L' := [some (aR 12 0 0), some (aI v1)]) (stk' := [aI v1, aI (σ2.1 1 (ix 2)), aR 12 0 0, aI r3, aI 1, aI v1, aR 12 0 0]) (σ' := σ2) (g := [inb 2 1986]) (by decide +kernel) rfl hg ?_
  obtain ⟨r6, σ5, h4, h⟩ := bnd_some h
  refine aw_cV (P' := pX12_coolsOf) (idx := 325) (d' := 5) (c := 12) (n := 0) (k := 0) [aI (σ2.1 1 (ix 2)), aI v1] [aI r3, aI 1, aI v1, aR 12 0 0] (ov := (some (aI r6))) (stk2 := [aI r6, aI r3, aI 1, aI v1, aR 12 0 0]) okp_X12_coolsOf (by decide +kernel) ml_RX12_325 vok_X12_coolsOf (by decide) rfl nar_X12_coolsOf (by decide) rfl (Nat.le_of_ble_eq_true rfl) (ok_X12_coolsOf h4) rfl ?_
  refine aw_seq [(.isub, 1, ax0), (.i2l, 1, ax0), (.iconst 0, 1, (axI 0)), (.bipush 9, 2, (axI 9))] (pc' := 25) (L' := [some (aR 12 0 0), some (aI v1)]) (stk' := [aI 9, aI 0, aL (Int32.toInt64 (r3 - r6)), aI 1, aI v1, aR 12 0 0]) (σ' := σ5) (g := []) (by decide +kernel) rfl rfl ?_
  obtain ⟨r9, σ8, h7, h⟩ := bnd_some h
  refine aw_cS (P' := pX12_cut) (idx := 291) (d' := 1) [aL (Int32.toInt64 (r3 - r6)), aI 0, aI 9] [aI 1, aI v1, aR 12 0 0] (ov := (some (aI r9))) (stk2 := [aI r9, aI 1, aI v1, aR 12 0 0]) okp_X12_cut (by decide +kernel) ml_RX12_291 tok_X12_cut nar_X12_cut (by decide) rfl (Nat.le_of_ble_eq_true rfl) (ok_X12_cut h7) rfl ?_
  obtain ⟨σ11, h10, h⟩ := bndV_some h
  refine aw_cV (P' := pX12_put) (idx := 80) (d' := 1) (c := 12) (n := 0) (k := 0) [aI v1, aI 1, aI r9] [] (ov := none) (stk2 := []) okp_X12_put (by decide +kernel) ml_RX12_80 vok_X12_put (by decide) rfl nar_X12_put (by decide) rfl (Nat.le_of_ble_eq_true rfl) (ok_X12_put h10) rfl ?_
  refine aw_seq [(.aload_n 0, 1, ax0), (.iload_n 1, 1, ax0), (.iconst 1, 1, (axI 1))] (pc' := 34) (L' := [some (aR 12 0 0), some (aI v1)]) (stk' := [aI 1, aI v1, aR 12 0 0]) (σ' := σ11) (g := []) (by decide +kernel) rfl rfl ?_
  obtain ⟨r14, σ13, h12, h⟩ := bnd_some h
  refine aw_cV (P' := pX12_get) (idx := 77) (d' := 1) (c := 12) (n := 0) (k := 0) [aI v1, aI 1] [] (ov := (some (aI r14))) (stk2 := [aI r14]) okp_X12_get (by decide +kernel) ml_RX12_77 vok_X12_get (by decide) rfl nar_X12_get (by decide) rfl (Nat.le_of_ble_eq_true rfl) (ok_X12_get h12) rfl ?_
  refine aw_if_le (off := 4) (tgt := 41) (by decide +kernel) (by decide) (fun c1 => ?_) (fun c1 => ?_)
  · rw [if_pos c1] at h
    refine aw_seq [(.aload_n 0, 1, ax0), (.iload_n 1, 1, ax0), (.iconst 0, 1, (axI 0)), (.iconst 0, 1, (axI 0))] (pc' := 45) (L' := [some (aR 12 0 0), some (aI v1)]) (stk' := [aI 0, aI 0, aI v1, aR 12 0 0]) (σ' := σ13) (g := []) (by decide +kernel) rfl rfl ?_
    obtain ⟨σ16, h15, h⟩ := bndV_some h
    refine aw_cV (P' := pX12_put) (idx := 80) (d' := 1) (c := 12) (n := 0) (k := 0) [aI v1, aI 0, aI 0] [] (ov := none) (stk2 := []) okp_X12_put (by decide +kernel) ml_RX12_80 vok_X12_put (by decide) rfl nar_X12_put (by decide) rfl (Nat.le_of_ble_eq_true rfl) (ok_X12_put h15) rfl ?_
    refine aw_seq [(.aload_n 0, 1, ax0), (.iload_n 1, 1, ax0), (.iconst 2, 1, (axI 2))] (pc' := 51) (L' := [some (aR 12 0 0), some (aI v1)]) (stk' := [aI 2, aI v1, aR 12 0 0]) (σ' := σ16) (g := []) (by decide +kernel) rfl rfl ?_
    obtain ⟨σ18, h17, h⟩ := bndV_some h
    refine aw_cV (P' := pX12_write) (idx := 328) (d' := 1) (c := 12) (n := 0) (k := 0) [aI v1, aI 2] [] (ov := none) (stk2 := []) okp_X12_write (by decide +kernel) ml_RX12_328 vok_X12_write (by decide) rfl nar_X12_write (by decide) rfl (Nat.le_of_ble_eq_true rfl) (ok_X12_write h17) rfl ?_
    cases h
    exact aw_vret rfl (by decide +kernel)
  · rw [if_neg c1] at h
    cases h
    exact aw_vret rfl (by decide +kernel)
def f_X12_live_73    (σ : Sg) : Option Sg :=
  some σ
set_option maxRecDepth 100000 in
set_option maxHeartbeats 4000000 in
theorem ok_X12_live_73 {κ : Kd}    : ∀  (σ : Sg) (q : Sg), f_X12_live_73  σ = some q → AW κ pX12_live 7 (none, q) 73 [none, none, none] [] σ := by
  intro  σ q h
  unfold f_X12_live_73 at h
  cases h
  exact aw_vret rfl (by decide +kernel)
def f_X12_live_74   (v1 : Int32) (σ : Sg) : Option Sg :=
  bnd (f_X12_spreadsOf v1 σ) fun r3 σ2 =>
  bnd (f_X12_drawn σ2) fun r6 σ5 =>
  if r6 < r3 then (
    bndV (f_X12_put v1 0 3 σ5) fun σ8 =>
    bndV (f_X12_write v1 3 σ8) fun σ10 =>
    ltσ (wI σ10 0 25 ((σ10.1 0 25) + 1)) fun σ11 =>
    some σ11
  ) else (
    some σ5
  )
set_option maxRecDepth 100000 in
set_option maxHeartbeats 4000000 in
theorem ok_X12_live_74 {κ : Kd}    : ∀ (v1 : Int32) (σ : Sg) (q : Sg), f_X12_live_74 v1 σ = some q → AW κ pX12_live 7 (none, q) 74 [some (aR 12 0 0), some (aI v1), none] [] σ := by
  intro v1 σ q h
  unfold f_X12_live_74 at h
  refine aw_seq [(.aload_n 0, 1, ax0), (.iload_n 1, 1, ax0)] (pc' := 76) (L' := [some (aR 12 0 0), some (aI v1), none]) (stk' := [aI v1, aR 12 0 0]) (σ' := σ) (g := []) (by decide +kernel) rfl rfl ?_
  obtain ⟨r3, σ2, h1, h⟩ := bnd_some h
  refine aw_cV (P' := pX12_spreadsOf) (idx := 337) (d' := 5) (c := 12) (n := 0) (k := 0) [aI v1] [] (ov := (some (aI r3))) (stk2 := [aI r3]) okp_X12_spreadsOf (by decide +kernel) ml_RX12_337 vok_X12_spreadsOf (by decide) rfl nar_X12_spreadsOf (by decide) rfl (Nat.le_of_ble_eq_true rfl) (ok_X12_spreadsOf h1) rfl ?_
  refine aw_seq [(.istore_n 2, 1, ax0), (.aload_n 0, 1, ax0)] (pc' := 81) (L' := [some (aR 12 0 0), some (aI v1), some (aI r3)]) (stk' := [aR 12 0 0]) (σ' := σ2) (g := []) (by decide +kernel) rfl rfl ?_
  obtain ⟨r6, σ5, h4, h⟩ := bnd_some h
  refine aw_cV (P' := pX12_drawn) (idx := 340) (d' := 2) (c := 12) (n := 0) (k := 0) [] [] (ov := (some (aI r6))) (stk2 := [aI r6]) okp_X12_drawn (by decide +kernel) ml_RX12_340 vok_X12_drawn (by decide) rfl nar_X12_drawn (by decide) rfl (Nat.le_of_ble_eq_true rfl) (ok_X12_drawn h4) rfl ?_
  refine aw_seq [(.iload_n 2, 1, ax0)] (pc' := 85) (L' := [some (aR 12 0 0), some (aI v1), some (aI r3)]) (stk' := [aI r3, aI r6]) (σ' := σ5) (g := []) (by decide +kernel) rfl rfl ?_
  refine aw_icmp_lt (off := 4) (tgt := 89) (by decide +kernel) (by decide) (fun c1 => ?_) (fun c1 => ?_)
  · rw [if_pos c1] at h
    refine aw_seq [(.aload_n 0, 1, ax0), (.iload_n 1, 1, ax0), (.iconst 0, 1, (axI 0)), (.iconst 3, 1, (axI 3))] (pc' := 93) (L' := [some (aR 12 0 0), some (aI v1), some (aI r3)]) (stk' := [aI 3, aI 0, aI v1, aR 12 0 0]) (σ' := σ5) (g := []) (by decide +kernel) rfl rfl ?_
    obtain ⟨σ8, h7, h⟩ := bndV_some h
    refine aw_cV (P' := pX12_put) (idx := 80) (d' := 1) (c := 12) (n := 0) (k := 0) [aI v1, aI 0, aI 3] [] (ov := none) (stk2 := []) okp_X12_put (by decide +kernel) ml_RX12_80 vok_X12_put (by decide) rfl nar_X12_put (by decide) rfl (Nat.le_of_ble_eq_true rfl) (ok_X12_put h7) rfl ?_
    refine aw_seq [(.aload_n 0, 1, ax0), (.iload_n 1, 1, ax0), (.iconst 3, 1, (axI 3))] (pc' := 99) (L' := [some (aR 12 0 0), some (aI v1), some (aI r3)]) (stk' := [aI 3, aI v1, aR 12 0 0]) (σ' := σ8) (g := []) (by decide +kernel) rfl rfl ?_
    obtain ⟨σ10, h9, h⟩ := bndV_some h
    refine aw_cV (P' := pX12_write) (idx := 328) (d' := 1) (c := 12) (n := 0) (k := 0) [aI v1, aI 3] [] (ov := none) (stk2 := []) okp_X12_write (by decide +kernel) ml_RX12_328 vok_X12_write (by decide) rfl nar_X12_write (by decide) rfl (Nat.le_of_ble_eq_true rfl) (ok_X12_write h9) rfl ?_
    obtain ⟨σ11, e12, h⟩ := ltσ_some h
    refine aw_seq [(.aload_n 0, 1, ax0), (.dup, 1, ax0), (.getfield 343, 3, (axF 12 25 (0, 0, 0, none))), (.iconst 1, 1, (axI 1)), (.iadd, 1, ax0), (.putfield 343, 3, (axF 12 25 (0, 0, 0, none)))] (pc' := 112) (L' := [some (aR 12 0 0), some (aI v1), some (aI r3)]) (stk' := []) (σ' := σ11) (g := []) (by decide +kernel) (by rw [e12]; rfl) rfl ?_
    cases h
    exact aw_vret rfl (by decide +kernel)
  · rw [if_neg c1] at h
    cases h
    exact aw_vret rfl (by decide +kernel)
def f_X12_live_45   (v1 : Int32) (σ : Sg) : Option Sg :=
  bnd (f_X12_get v1 0 σ) fun r15 σ14 =>
  if r15 = 4 then (
    f_X12_live_73 σ14
  ) else (
    bnd (f_X12_nearOf v1 σ14) fun r18 σ17 =>
    if r18 = 0 then (
      bnd (f_X12_get v1 0 σ17) fun r21 σ20 =>
      if r21 = 2 then (
        f_X12_live_74 v1 σ20
      ) else (
        f_X12_live_73 σ20
      )
    ) else (
      f_X12_live_74 v1 σ17
    )
  )
set_option maxRecDepth 100000 in
set_option maxHeartbeats 4000000 in
theorem ok_X12_live_45 {κ : Kd}    : ∀ (v1 : Int32) (σ : Sg) (q : Sg), f_X12_live_45 v1 σ = some q → AW κ pX12_live 7 (none, q) 45 [some (aR 12 0 0), some (aI v1), none] [] σ := by
  intro v1 σ q h
  unfold f_X12_live_45 at h
  refine aw_seq [(.aload_n 0, 1, ax0), (.iload_n 1, 1, ax0), (.iconst 0, 1, (axI 0))] (pc' := 48) (L' := [some (aR 12 0 0), some (aI v1), none]) (stk' := [aI 0, aI v1, aR 12 0 0]) (σ' := σ) (g := []) (by decide +kernel) rfl rfl ?_
  obtain ⟨r15, σ14, h13, h⟩ := bnd_some h
  refine aw_cV (P' := pX12_get) (idx := 77) (d' := 1) (c := 12) (n := 0) (k := 0) [aI v1, aI 0] [] (ov := (some (aI r15))) (stk2 := [aI r15]) okp_X12_get (by decide +kernel) ml_RX12_77 vok_X12_get (by decide) rfl nar_X12_get (by decide) rfl (Nat.le_of_ble_eq_true rfl) (ok_X12_get h13) rfl ?_
  refine aw_seq [(.iconst 4, 1, (axI 4))] (pc' := 52) (L' := [some (aR 12 0 0), some (aI v1), none]) (stk' := [aI 4, aI r15]) (σ' := σ14) (g := []) (by decide +kernel) rfl rfl ?_
  refine aw_icmp_eq (off := 21) (tgt := 73) (by decide +kernel) (by decide) (fun c1 => ?_) (fun c1 => ?_)
  · rw [if_pos c1] at h
    refine aw_forget (L' := [none, none, none]) (lsub_n (lsub_n (lsub_n (lsub_0)))) ?_
    exact ok_X12_live_73 σ14 _ h
  · rw [if_neg c1] at h
    refine aw_seq [(.aload_n 0, 1, ax0), (.iload_n 1, 1, ax0)] (pc' := 57) (L' := [some (aR 12 0 0), some (aI v1), none]) (stk' := [aI v1, aR 12 0 0]) (σ' := σ14) (g := []) (by decide +kernel) rfl rfl ?_
    obtain ⟨r18, σ17, h16, h⟩ := bnd_some h
    refine aw_cV (P' := pX12_nearOf) (idx := 306) (d' := 3) (c := 12) (n := 0) (k := 0) [aI v1] [] (ov := (some (aI r18))) (stk2 := [aI r18]) okp_X12_nearOf (by decide +kernel) ml_RX12_306 vok_X12_nearOf (by decide) rfl nar_X12_nearOf (by decide) rfl (Nat.le_of_ble_eq_true rfl) (ok_X12_nearOf h16) rfl ?_
    refine aw_if_ne (off := 14) (tgt := 74) (by decide +kernel) (by decide) (fun c1 => ?_) (fun c1 => ?_)
    · rw [if_neg c1] at h
      refine aw_forget (L' := [some (aR 12 0 0), some (aI v1), none]) (lsub_s (lsub_s (lsub_n (lsub_0)))) ?_
      exact ok_X12_live_74 v1 σ17 _ h
    · rw [if_pos c1] at h
      refine aw_seq [(.aload_n 0, 1, ax0), (.iload_n 1, 1, ax0), (.iconst 0, 1, (axI 0))] (pc' := 66) (L' := [some (aR 12 0 0), some (aI v1), none]) (stk' := [aI 0, aI v1, aR 12 0 0]) (σ' := σ17) (g := []) (by decide +kernel) rfl rfl ?_
      obtain ⟨r21, σ20, h19, h⟩ := bnd_some h
      refine aw_cV (P' := pX12_get) (idx := 77) (d' := 1) (c := 12) (n := 0) (k := 0) [aI v1, aI 0] [] (ov := (some (aI r21))) (stk2 := [aI r21]) okp_X12_get (by decide +kernel) ml_RX12_77 vok_X12_get (by decide) rfl nar_X12_get (by decide) rfl (Nat.le_of_ble_eq_true rfl) (ok_X12_get h19) rfl ?_
      refine aw_seq [(.iconst 2, 1, (axI 2))] (pc' := 70) (L' := [some (aR 12 0 0), some (aI v1), none]) (stk' := [aI 2, aI r21]) (σ' := σ20) (g := []) (by decide +kernel) rfl rfl ?_
      refine aw_icmp_eq (off := 4) (tgt := 74) (by decide +kernel) (by decide) (fun c1 => ?_) (fun c1 => ?_)
      · rw [if_pos c1] at h
        refine aw_forget (L' := [some (aR 12 0 0), some (aI v1), none]) (lsub_s (lsub_s (lsub_n (lsub_0)))) ?_
        exact ok_X12_live_74 v1 σ20 _ h
      · rw [if_neg c1] at h
        refine aw_forget (L' := [none, none, none]) (lsub_n (lsub_n (lsub_n (lsub_0)))) ?_
        exact ok_X12_live_73 σ20 _ h
def f_X12_live (v1 : Int32) (σ : Sg) : Option Sg :=
  bnd (f_X12_has (σ.1 0 23) v1 σ) fun r24 σ23 =>
  if r24 = 0 then (
    bnd (f_X12_isAlight v1 σ23) fun r27 σ26 =>
    if r27 = 0 then (
      f_X12_live_45 v1 σ26
    ) else (
      bndV (f_X12_cool v1 σ26) fun σ29 =>
      f_X12_live_45 v1 σ29
    )
  ) else (
    bndV (f_X12_put v1 0 4 σ23) fun σ31 =>
    bndV (f_X12_put v1 1 0 σ31) fun σ33 =>
    bndV (f_X12_write v1 4 σ33) fun σ35 =>
    some σ35
  )
set_option maxRecDepth 100000 in
set_option maxHeartbeats 4000000 in
theorem ok_X12_live {κ : Kd} {v1 : Int32} {σ : Sg} {q : Sg} (h : f_X12_live v1 σ = some q) : AMet κ pX12_live 7 [aR 12 0 0, aI v1] σ (none, q) := by
  unfold f_X12_live at h
  refine amet_of okp_X12_live [(false, aR 12 0 0), (false, aI v1)] (List.forall_mem_cons.mpr ⟨rfl, List.forall_mem_cons.mpr ⟨rfl, (fun _ hn => absurd hn List.not_mem_nil)⟩⟩) 1 rfl ?_
  show AW κ pX12_live 7 (none, q) 0 [some (aR 12 0 0), some (aI v1), none] [] σ
  refine aw_seq [(.aload_n 0, 1, ax0), (.getfield 297, 3, (axF 12 23 (0, 0, 0, none))), (.iload_n 1, 1, ax0)] (pc' := 5) (L' := [some (aR 12 0 0), some (aI v1), none]) (stk' := [aI v1, aI (σ.1 0 23)]) (σ' := σ) (g := []) (by decide +kernel) rfl rfl ?_
  obtain ⟨r24, σ23, h22, h⟩ := bnd_some h
  refine aw_cS (P' := pX12_has) (idx := 250) (d' := 1) [aI (σ.1 0 23), aI v1] [] (ov := (some (aI r24))) (stk2 := [aI r24]) okp_X12_has (by decide +kernel) ml_RX12_250 tok_X12_has nar_X12_has (by decide) rfl (Nat.le_of_ble_eq_true rfl) (ok_X12_has h22) rfl ?_
  refine aw_if_eq (off := 24) (tgt := 32) (by decide +kernel) (by decide) (fun c1 => ?_) (fun c1 => ?_)
  · rw [if_pos c1] at h
    refine aw_seq [(.aload_n 0, 1, ax0), (.iload_n 1, 1, ax0)] (pc' := 34) (L' := [some (aR 12 0 0), some (aI v1), none]) (stk' := [aI v1, aR 12 0 0]) (σ' := σ23) (g := []) (by decide +kernel) rfl rfl ?_
    obtain ⟨r27, σ26, h25, h⟩ := bnd_some h
    refine aw_cV (P' := pX12_isAlight) (idx := 331) (d' := 2) (c := 12) (n := 0) (k := 0) [aI v1] [] (ov := (some (aI r27))) (stk2 := [aI r27]) okp_X12_isAlight (by decide +kernel) ml_RX12_331 vok_X12_isAlight (by decide) rfl nar_X12_isAlight (by decide) rfl (Nat.le_of_ble_eq_true rfl) (ok_X12_isAlight h25) rfl ?_
    refine aw_if_eq (off := 8) (tgt := 45) (by decide +kernel) (by decide) (fun c1 => ?_) (fun c1 => ?_)
    · rw [if_pos c1] at h
      refine aw_forget (L' := [some (aR 12 0 0), some (aI v1), none]) (lsub_s (lsub_s (lsub_n (lsub_0)))) ?_
      exact ok_X12_live_45 v1 σ26 _ h
    · rw [if_neg c1] at h
      refine aw_seq [(.aload_n 0, 1, ax0), (.iload_n 1, 1, ax0)] (pc' := 42) (L' := [some (aR 12 0 0), some (aI v1), none]) (stk' := [aI v1, aR 12 0 0]) (σ' := σ26) (g := []) (by decide +kernel) rfl rfl ?_
      obtain ⟨σ29, h28, h⟩ := bndV_some h
      refine aw_cV (P' := pX12_cool) (idx := 334) (d' := 6) (c := 12) (n := 0) (k := 0) [aI v1] [] (ov := none) (stk2 := []) okp_X12_cool (by decide +kernel) ml_RX12_334 vok_X12_cool (by decide) rfl nar_X12_cool (by decide) rfl (Nat.le_of_ble_eq_true rfl) (ok_X12_cool h28) rfl ?_
      refine aw_forget (L' := [some (aR 12 0 0), some (aI v1), none]) (lsub_s (lsub_s (lsub_n (lsub_0)))) ?_
      exact ok_X12_live_45 v1 σ29 _ h
  · rw [if_neg c1] at h
    refine aw_seq [(.aload_n 0, 1, ax0), (.iload_n 1, 1, ax0), (.iconst 0, 1, (axI 0)), (.iconst 4, 1, (axI 4))] (pc' := 15) (L' := [some (aR 12 0 0), some (aI v1), none]) (stk' := [aI 4, aI 0, aI v1, aR 12 0 0]) (σ' := σ23) (g := []) (by decide +kernel) rfl rfl ?_
    obtain ⟨σ31, h30, h⟩ := bndV_some h
    refine aw_cV (P' := pX12_put) (idx := 80) (d' := 1) (c := 12) (n := 0) (k := 0) [aI v1, aI 0, aI 4] [] (ov := none) (stk2 := []) okp_X12_put (by decide +kernel) ml_RX12_80 vok_X12_put (by decide) rfl nar_X12_put (by decide) rfl (Nat.le_of_ble_eq_true rfl) (ok_X12_put h30) rfl ?_
    refine aw_seq [(.aload_n 0, 1, ax0), (.iload_n 1, 1, ax0), (.iconst 1, 1, (axI 1)), (.iconst 0, 1, (axI 0))] (pc' := 22) (L' := [some (aR 12 0 0), some (aI v1), none]) (stk' := [aI 0, aI 1, aI v1, aR 12 0 0]) (σ' := σ31) (g := []) (by decide +kernel) rfl rfl ?_
    obtain ⟨σ33, h32, h⟩ := bndV_some h
    refine aw_cV (P' := pX12_put) (idx := 80) (d' := 1) (c := 12) (n := 0) (k := 0) [aI v1, aI 1, aI 0] [] (ov := none) (stk2 := []) okp_X12_put (by decide +kernel) ml_RX12_80 vok_X12_put (by decide) rfl nar_X12_put (by decide) rfl (Nat.le_of_ble_eq_true rfl) (ok_X12_put h32) rfl ?_
    refine aw_seq [(.aload_n 0, 1, ax0), (.iload_n 1, 1, ax0), (.iconst 4, 1, (axI 4))] (pc' := 28) (L' := [some (aR 12 0 0), some (aI v1), none]) (stk' := [aI 4, aI v1, aR 12 0 0]) (σ' := σ33) (g := []) (by decide +kernel) rfl rfl ?_
    obtain ⟨σ35, h34, h⟩ := bndV_some h
    refine aw_cV (P' := pX12_write) (idx := 328) (d' := 1) (c := 12) (n := 0) (k := 0) [aI v1, aI 4] [] (ov := none) (stk2 := []) okp_X12_write (by decide +kernel) ml_RX12_328 vok_X12_write (by decide) rfl nar_X12_write (by decide) rfl (Nat.le_of_ble_eq_true rfl) (ok_X12_write h34) rfl ?_
    cases h
    exact aw_vret rfl (by decide +kernel)
def f_X12_pass_22   : Nat → Int32 → Sg → Option Sg
  | 0, _, _ => none
  | fu + 1, v1, σ =>
    grd (inb 0 1986 && true) <|
    if (σ.1 1 (ix 0)) ≤ v1 then (
      grd (inb 6 1986 && (inb 6 1986 && true)) <|
      ltσ (wI σ 1 (ix 6) ((σ.1 1 (ix 6)) + 1)) fun σ1 =>
      bnd (f_X12_allOf 3 σ1) fun r5 σ4 =>
      ltσ (wI σ4 0 23 r5) fun σ6 =>
      some σ6
    ) else (
      bndV (f_X12_live v1 σ) fun σ9 =>
      (f_X12_pass_22 fu) (v1 + 1) σ9
    )
set_option maxRecDepth 100000 in
set_option maxHeartbeats 4000000 in
theorem ok_X12_pass_22 {κ : Kd}    : ∀ (fu : Nat) (v1 : Int32) (σ : Sg) (q : Sg), f_X12_pass_22 fu v1 σ = some q → AW κ pX12_pass 8 (none, q) 22 [some (aR 12 0 0), some (aI v1)] [] σ := by
  intro fu
  induction fu with
  | zero =>
    intro v1 σ q h
    unfold f_X12_pass_22 at h
    cases h
  | succ fu ih =>
    intro v1 σ q h
    unfold f_X12_pass_22 at h
    obtain ⟨hg, h⟩ := grd_some h
    refine aw_seq [(.iload_n 1, 1, ax0), (.aload_n 0, 1, ax0), (.getfield 7, 3, (axF 12 0 (2, 1, 13, some 1986))), (.iconst 0, 1, (axI 0)), (.iaload, 1, ax0)] (pc' := 29) (L' := [some (aR 12 0 0), some (aI v1)]) (stk' := [aI (σ.1 1 (ix 0)), aI v1]) (σ' := σ) (g := [inb 0 1986]) (by decide +kernel) rfl hg ?_
    refine aw_icmp_ge (off := 14) (tgt := 43) (by decide +kernel) (by decide) (fun c1 => ?_) (fun c1 => ?_)
    · rw [if_pos c1] at h
      obtain ⟨hg, h⟩ := grd_some h
      obtain ⟨σ1, e2, h⟩ := ltσ_some h
      refine aw_seq [(.aload_n 0, 1, ax0), (.getfield 7, 3, (axF 12 0 (2, 1, 13, some 1986))), (.bipush 6, 2, (axI 6)), (.dup2, 1, ax0), (.iaload, 1, ax0), (.iconst 1, 1, (axI 1)), (.iadd, 1, ax0), (.iastore, 1, ax0)] (pc' := 54) (L' := [some (aR 12 0 0), some (aI v1)]) (stk' := []) (σ' := σ1) (g := [inb 6 1986, inb 6 1986]) (by decide +kernel) (by rw [e2]; rfl) hg ?_
      refine aw_seq [(.aload_n 0, 1, ax0), (.aload_n 0, 1, ax0), (.iconst 3, 1, (axI 3))] (pc' := 57) (L' := [some (aR 12 0 0), some (aI v1)]) (stk' := [aI 3, aR 12 0 0, aR 12 0 0]) (σ' := σ1) (g := []) (by decide +kernel) rfl rfl ?_
      obtain ⟨r5, σ4, h3, h⟩ := bnd_some h
      refine aw_cV (P' := pX12_allOf) (idx := 346) (d' := 2) (c := 12) (n := 0) (k := 0) [aI 3] [aR 12 0 0] (ov := (some (aI r5))) (stk2 := [aI r5, aR 12 0 0]) okp_X12_allOf (by decide +kernel) ml_RX12_346 vok_X12_allOf (by decide) rfl nar_X12_allOf (by decide) rfl (Nat.le_of_ble_eq_true rfl) (ok_X12_allOf h3) rfl ?_
      obtain ⟨σ6, e7, h⟩ := ltσ_some h
      refine aw_seq [(.putfield 297, 3, (axF 12 23 (0, 0, 0, none)))] (pc' := 63) (L' := [some (aR 12 0 0), some (aI v1)]) (stk' := []) (σ' := σ6) (g := []) (by decide +kernel) (by rw [e7]; rfl) rfl ?_
      cases h
      exact aw_vret rfl (by decide +kernel)
    · rw [if_neg c1] at h
      refine aw_seq [(.aload_n 0, 1, ax0), (.iload_n 1, 1, ax0)] (pc' := 34) (L' := [some (aR 12 0 0), some (aI v1)]) (stk' := [aI v1, aR 12 0 0]) (σ' := σ) (g := []) (by decide +kernel) rfl rfl ?_
      obtain ⟨σ9, h8, h⟩ := bndV_some h
      refine aw_cV (P' := pX12_live) (idx := 349) (d' := 7) (c := 12) (n := 0) (k := 0) [aI v1] [] (ov := none) (stk2 := []) okp_X12_live (by decide +kernel) ml_RX12_349 vok_X12_live (by decide) rfl nar_X12_live (by decide) rfl (Nat.le_of_ble_eq_true rfl) (ok_X12_live h8) rfl ?_
      refine aw_seq [(.iinc 1 1, 3, (axI 1))] (pc' := 40) (L' := [some (aR 12 0 0), some (aI (v1 + 1))]) (stk' := []) (σ' := σ9) (g := []) (by decide +kernel) rfl rfl ?_
      refine aw_goto (off := (-18)) (tgt := 22) (by decide +kernel) (by decide) ?_
      refine aw_forget (L' := [some (aR 12 0 0), some (aI (v1 + 1))]) (lsub_s (lsub_s (lsub_0))) ?_
      exact ih (v1 + 1) σ9 _ h
def f_X12_pass  (σ : Sg) : Option Sg :=
  bnd (f_X12_drawn σ) fun r12 σ11 =>
  grd (inb 7 1986 && true) <|
  ltσ (wI σ11 1 (ix 7) r12) fun σ13 =>
  bnd (f_X12_allOf 3 σ13) fun r17 σ16 =>
  ltσ (wI σ16 0 23 r17) fun σ18 =>
  f_X12_pass_22 FU 0 σ18
set_option maxRecDepth 100000 in
set_option maxHeartbeats 4000000 in
theorem ok_X12_pass {κ : Kd}  {σ : Sg} {q : Sg} (h : f_X12_pass σ = some q) : AMet κ pX12_pass 8 [aR 12 0 0] σ (none, q) := by
  unfold f_X12_pass at h
  refine amet_of okp_X12_pass [(false, aR 12 0 0)] (List.forall_mem_cons.mpr ⟨rfl, (fun _ hn => absurd hn List.not_mem_nil)⟩) 1 rfl ?_
  show AW κ pX12_pass 8 (none, q) 0 [some (aR 12 0 0), none] [] σ
  refine aw_seq [(.aload_n 0, 1, ax0), (.getfield 7, 3, (axF 12 0 (2, 1, 13, some 1986))), (.bipush 7, 2, (axI 7)), (.aload_n 0, 1, ax0)] (pc' := 7) (L' := [some (aR 12 0 0), none]) (stk' := [aR 12 0 0, aI 7, aR 13 1986 1]) (σ' := σ) (g := []) (by decide +kernel) rfl rfl ?_
  obtain ⟨r12, σ11, h10, h⟩ := bnd_some h
  refine aw_cV (P' := pX12_drawn) (idx := 340) (d' := 2) (c := 12) (n := 0) (k := 0) [] [aI 7, aR 13 1986 1] (ov := (some (aI r12))) (stk2 := [aI r12, aI 7, aR 13 1986 1]) okp_X12_drawn (by decide +kernel) ml_RX12_340 vok_X12_drawn (by decide) rfl nar_X12_drawn (by decide) rfl (Nat.le_of_ble_eq_true rfl) (ok_X12_drawn h10) rfl ?_
  obtain ⟨hg, h⟩ := grd_some h
  obtain ⟨σ13, e14, h⟩ := ltσ_some h
  refine aw_seq [(.iastore, 1, ax0)] (pc' := 11) (L' := [some (aR 12 0 0), none]) (stk' := []) (σ' := σ13) (g := [inb 7 1986]) (by decide +kernel) (by rw [e14]; rfl) hg ?_
  refine aw_seq [(.aload_n 0, 1, ax0), (.aload_n 0, 1, ax0), (.iconst 3, 1, (axI 3))] (pc' := 14) (L' := [some (aR 12 0 0), none]) (stk' := [aI 3, aR 12 0 0, aR 12 0 0]) (σ' := σ13) (g := []) (by decide +kernel) rfl rfl ?_
  obtain ⟨r17, σ16, h15, h⟩ := bnd_some h
  refine aw_cV (P' := pX12_allOf) (idx := 346) (d' := 2) (c := 12) (n := 0) (k := 0) [aI 3] [aR 12 0 0] (ov := (some (aI r17))) (stk2 := [aI r17, aR 12 0 0]) okp_X12_allOf (by decide +kernel) ml_RX12_346 vok_X12_allOf (by decide) rfl nar_X12_allOf (by decide) rfl (Nat.le_of_ble_eq_true rfl) (ok_X12_allOf h15) rfl ?_
  obtain ⟨σ18, e19, h⟩ := ltσ_some h
  refine aw_seq [(.putfield 297, 3, (axF 12 23 (0, 0, 0, none)))] (pc' := 20) (L' := [some (aR 12 0 0), none]) (stk' := []) (σ' := σ18) (g := []) (by decide +kernel) (by rw [e19]; rfl) rfl ?_
  refine aw_seq [(.iconst 0, 1, (axI 0)), (.istore_n 1, 1, ax0)] (pc' := 22) (L' := [some (aR 12 0 0), some (aI 0)]) (stk' := []) (σ' := σ18) (g := []) (by decide +kernel) rfl rfl ?_
  refine aw_forget (L' := [some (aR 12 0 0), some (aI 0)]) (lsub_s (lsub_s (lsub_0))) ?_
  exact ok_X12_pass_22 FU 0 σ18 _ h
def f_X12_keep_124  (rec_116 : Int32 → Int32 → Sg → Option Sg) : Nat → Int32 → Int32 → Int32 → Sg → Option Sg
  | 0, _, _, _, _ => none
  | fu + 1, v1, v2, v3, σ =>
    if 3 ≤ v3 then (
      rec_116 v1 (v2 + 1) σ
    ) else (
      bnd (f_X12_get v2 v3 σ) fun r3 σ2 =>
      grd (inb (((v1 + 5) + (3 * v2)) + v3) 1986 && true) <|
      ltσ (wI σ2 1 (ix (((v1 + 5) + (3 * v2)) + v3)) r3) fun σ4 =>
      (f_X12_keep_124 rec_116 fu) v1 v2 (v3 + 1) σ4
    )
set_option maxRecDepth 100000 in
set_option maxHeartbeats 4000000 in
theorem ok_X12_keep_124 {κ : Kd}   {rec_116 : Int32 → Int32 → Sg → Option Sg} (hrec_116 : ∀ (v1 : Int32) (v2 : Int32) (σ : Sg) (q : Sg), rec_116 v1 v2 σ = some q → AW κ pX12_keep 2 (none, q) 116 [some (aR 12 0 0), some (aI v1), some (aI v2), none] [] σ) : ∀ (fu : Nat) (v1 : Int32) (v2 : Int32) (v3 : Int32) (σ : Sg) (q : Sg), f_X12_keep_124 rec_116 fu v1 v2 v3 σ = some q → AW κ pX12_keep 2 (none, q) 124 [some (aR 12 0 0), some (aI v1), some (aI v2), some (aI v3)] [] σ := by
  intro fu
  induction fu with
  | zero =>
    intro v1 v2 v3 σ q h
    unfold f_X12_keep_124 at h
    cases h
  | succ fu ih =>
    intro v1 v2 v3 σ q h
    unfold f_X12_keep_124 at h
    refine aw_seq [(.iload_n 3, 1, ax0), (.iconst 3, 1, (axI 3))] (pc' := 126) (L' := [some (aR 12 0 0), some (aI v1), some (aI v2), some (aI v3)]) (stk' := [aI 3, aI v3]) (σ' := σ) (g := []) (by decide +kernel) rfl rfl ?_
    refine aw_icmp_ge (off := 29) (tgt := 155) (by decide +kernel) (by decide) (fun c1 => ?_) (fun c1 => ?_)
    · rw [if_pos c1] at h
      refine aw_seq [(.iinc 2 1, 3, (axI 1))] (pc' := 158) (L' := [some (aR 12 0 0), some (aI v1), some (aI (v2 + 1)), some (aI v3)]) (stk' := []) (σ' := σ) (g := []) (by decide +kernel) rfl rfl ?_
      refine aw_goto (off := (-42)) (tgt := 116) (by decide +kernel) (by decide) ?_
      refine aw_forget (L' := [some (aR 12 0 0), some (aI v1), some (aI (v2 + 1)), none]) (lsub_s (lsub_s (lsub_s (lsub_n (lsub_0))))) ?_
      exact hrec_116 v1 (v2 + 1) σ _ h
    · rw [if_neg c1] at h
      refine aw_seq [(.aload_n 0, 1, ax0), (.getfield 7, 3, (axF 12 0 (2, 1, 13, some 1986))), (.iload_n 1, 1, ax0), (.iconst 5, 1, (axI 5)), (.iadd, 1, ax0), (.iconst 3, 1, (axI 3)), (.iload_n 2, 1, ax0), (.imul, 1, ax0), (.iadd, 1, ax0), (.iload_n 3, 1, ax0), (.iadd, 1, ax0), (.aload_n 0, 1, ax0), (.iload_n 2, 1, ax0), (.iload_n 3, 1, ax0)] (pc' := 145) (L' := [some (aR 12 0 0), some (aI v1), some (aI v2), some (aI v3)]) (stk' := [aI v3, aI v2, aR 12 0 0, aI (((v1 + 5) + (3 * v2)) + v3), aR 13 1986 1]) (σ' := σ) (g := []) (by decide +kernel) rfl rfl ?_
      obtain ⟨r3, σ2, h1, h⟩ := bnd_some h
      refine aw_cV (P' := pX12_get) (idx := 77) (d' := 1) (c := 12) (n := 0) (k := 0) [aI v2, aI v3] [aI (((v1 + 5) + (3 * v2)) + v3), aR 13 1986 1] (ov := (some (aI r3))) (stk2 := [aI r3, aI (((v1 + 5) + (3 * v2)) + v3), aR 13 1986 1]) okp_X12_get (by decide +kernel) ml_RX12_77 vok_X12_get (by decide) rfl nar_X12_get (by decide) rfl (Nat.le_of_ble_eq_true rfl) (ok_X12_get h1) rfl ?_
      obtain ⟨hg, h⟩ := grd_some h
      obtain ⟨σ4, e5, h⟩ := ltσ_some h
      refine aw_seq [(.iastore, 1, ax0)] (pc' := 149) (L' := [some (aR 12 0 0), some (aI v1), some (aI v2), some (aI v3)]) (stk' := []) (σ' := σ4) (g := [inb (((v1 + 5) + (3 * v2)) + v3) 1986]) (by decide +kernel) (by rw [e5]; rfl) hg ?_
      refine aw_seq [(.iinc 3 1, 3, (axI 1))] (pc' := 152) (L' := [some (aR 12 0 0), some (aI v1), some (aI v2), some (aI (v3 + 1))]) (stk' := []) (σ' := σ4) (g := []) (by decide +kernel) rfl rfl ?_
      refine aw_goto (off := (-28)) (tgt := 124) (by decide +kernel) (by decide) ?_
      refine aw_forget (L' := [some (aR 12 0 0), some (aI v1), some (aI v2), some (aI (v3 + 1))]) (lsub_s (lsub_s (lsub_s (lsub_s (lsub_0))))) ?_
      exact ih v1 v2 (v3 + 1) σ4 _ h
def f_X12_keep_163   : Nat → Int32 → Int32 → Sg → Option Sg
  | 0, _, _, _ => none
  | fu + 1, v1, v2, σ =>
    if 30 ≤ v2 then (
      grd (inb 3 1986 && (inb 3 1986 && true)) <|
      ltσ (wI σ 1 (ix 3) ((σ.1 1 (ix 3)) + 1)) fun σ6 =>
      some σ6
    ) else (
      grd (inb (1956 + v2) 1986 && (inb ((v1 + 29) + v2) 1986 && true)) <|
      ltσ (wI σ 1 (ix ((v1 + 29) + v2)) (σ.1 1 (ix (1956 + v2)))) fun σ8 =>
      (f_X12_keep_163 fu) v1 (v2 + 1) σ8
    )
set_option maxRecDepth 100000 in
set_option maxHeartbeats 4000000 in
theorem ok_X12_keep_163 {κ : Kd}    : ∀ (fu : Nat) (v1 : Int32) (v2 : Int32) (σ : Sg) (q : Sg), f_X12_keep_163 fu v1 v2 σ = some q → AW κ pX12_keep 2 (none, q) 163 [some (aR 12 0 0), some (aI v1), some (aI v2), none] [] σ := by
  intro fu
  induction fu with
  | zero =>
    intro v1 v2 σ q h
    unfold f_X12_keep_163 at h
    cases h
  | succ fu ih =>
    intro v1 v2 σ q h
    unfold f_X12_keep_163 at h
    refine aw_seq [(.iload_n 2, 1, ax0), (.bipush 30, 2, (axI 30))] (pc' := 166) (L' := [some (aR 12 0 0), some (aI v1), some (aI v2), none]) (stk' := [aI 30, aI v2]) (σ' := σ) (g := []) (by decide +kernel) rfl rfl ?_
    refine aw_icmp_ge (off := 30) (tgt := 196) (by decide +kernel) (by decide) (fun c1 => ?_) (fun c1 => ?_)
    · rw [if_pos c1] at h
      obtain ⟨hg, h⟩ := grd_some h
      obtain ⟨σ6, e7, h⟩ := ltσ_some h
      refine aw_seq [(.aload_n 0, 1, ax0), (.getfield 7, 3, (axF 12 0 (2, 1, 13, some 1986))), (.iconst 3, 1, (axI 3)), (.dup2, 1, ax0), (.iaload, 1, ax0), (.iconst 1, 1, (axI 1)), (.iadd, 1, ax0), (.iastore, 1, ax0)] (pc' := 206) (L' := [some (aR 12 0 0), some (aI v1), some (aI v2), none]) (stk' := []) (σ' := σ6) (g := [inb 3 1986, inb 3 1986]) (by decide +kernel) (by rw [e7]; rfl) hg ?_
      cases h
      exact aw_vret rfl (by decide +kernel)
    · rw [if_neg c1] at h
      obtain ⟨hg, h⟩ := grd_some h
      obtain ⟨σ8, e9, h⟩ := ltσ_some h
      refine aw_seq [(.aload_n 0, 1, ax0), (.getfield 7, 3, (axF 12 0 (2, 1, 13, some 1986))), (.iload_n 1, 1, ax0), (.bipush 29, 2, (axI 29)), (.iadd, 1, ax0), (.iload_n 2, 1, ax0), (.iadd, 1, ax0), (.aload_n 0, 1, ax0), (.getfield 7, 3, (axF 12 0 (2, 1, 13, some 1986))), (.sipush 1956, 3, (axI 1956)), (.iload_n 2, 1, ax0), (.iadd, 1, ax0), (.iaload, 1, ax0), (.iastore, 1, ax0)] (pc' := 190) (L' := [some (aR 12 0 0), some (aI v1), some (aI v2), none]) (stk' := []) (σ' := σ8) (g := [inb (1956 + v2) 1986, inb ((v1 + 29) + v2) 1986]) (by decide +kernel) (by rw [e9]; rfl) hg ?_
      refine aw_seq [(.iinc 2 1, 3, (axI 1))] (pc' := 193) (L' := [some (aR 12 0 0), some (aI v1), some (aI (v2 + 1)), none]) (stk' := []) (σ' := σ8) (g := []) (by decide +kernel) rfl rfl ?_
      refine aw_goto (off := (-30)) (tgt := 163) (by decide +kernel) (by decide) ?_
      refine aw_forget (L' := [some (aR 12 0 0), some (aI v1), some (aI (v2 + 1)), none]) (lsub_s (lsub_s (lsub_s (lsub_n (lsub_0))))) ?_
      exact ih v1 (v2 + 1) σ8 _ h
def f_X12_keep_116   : Nat → Int32 → Int32 → Sg → Option Sg
  | 0, _, _, _ => none
  | fu + 1, v1, v2, σ =>
    if 8 ≤ v2 then (
      f_X12_keep_163 FU v1 0 σ
    ) else (
      f_X12_keep_124 (f_X12_keep_116 fu) FU v1 v2 0 σ
    )
set_option maxRecDepth 100000 in
set_option maxHeartbeats 4000000 in
theorem ok_X12_keep_116 {κ : Kd}    : ∀ (fu : Nat) (v1 : Int32) (v2 : Int32) (σ : Sg) (q : Sg), f_X12_keep_116 fu v1 v2 σ = some q → AW κ pX12_keep 2 (none, q) 116 [some (aR 12 0 0), some (aI v1), some (aI v2), none] [] σ := by
  intro fu
  induction fu with
  | zero =>
    intro v1 v2 σ q h
    unfold f_X12_keep_116 at h
    cases h
  | succ fu ih =>
    intro v1 v2 σ q h
    unfold f_X12_keep_116 at h
    refine aw_seq [(.iload_n 2, 1, ax0), (.bipush 8, 2, (axI 8))] (pc' := 119) (L' := [some (aR 12 0 0), some (aI v1), some (aI v2), none]) (stk' := [aI 8, aI v2]) (σ' := σ) (g := []) (by decide +kernel) rfl rfl ?_
    refine aw_icmp_ge (off := 42) (tgt := 161) (by decide +kernel) (by decide) (fun c1 => ?_) (fun c1 => ?_)
    · rw [if_pos c1] at h
      refine aw_seq [(.iconst 0, 1, (axI 0)), (.istore_n 2, 1, ax0)] (pc' := 163) (L' := [some (aR 12 0 0), some (aI v1), some (aI 0), none]) (stk' := []) (σ' := σ) (g := []) (by decide +kernel) rfl rfl ?_
      refine aw_forget (L' := [some (aR 12 0 0), some (aI v1), some (aI 0), none]) (lsub_s (lsub_s (lsub_s (lsub_n (lsub_0))))) ?_
      exact ok_X12_keep_163 FU v1 0 σ _ h
    · rw [if_neg c1] at h
      refine aw_seq [(.iconst 0, 1, (axI 0)), (.istore_n 3, 1, ax0)] (pc' := 124) (L' := [some (aR 12 0 0), some (aI v1), some (aI v2), some (aI 0)]) (stk' := []) (σ' := σ) (g := []) (by decide +kernel) rfl rfl ?_
      refine aw_forget (L' := [some (aR 12 0 0), some (aI v1), some (aI v2), some (aI 0)]) (lsub_s (lsub_s (lsub_s (lsub_s (lsub_0))))) ?_
      exact ok_X12_keep_124 ih FU v1 v2 0 σ _ h
def f_X12_keep_84   : Nat → Int32 → Int32 → Sg → Option Sg
  | 0, _, _, _ => none
  | fu + 1, v1, v2, σ =>
    if 4 ≤ v2 then (
      f_X12_keep_116 FU v1 0 σ
    ) else (
      grd (inb (6 + v2) 1986 && (inb ((v1 + 1) + v2) 1986 && true)) <|
      ltσ (wI σ 1 (ix ((v1 + 1) + v2)) (σ.1 1 (ix (6 + v2)))) fun σ10 =>
      (f_X12_keep_84 fu) v1 (v2 + 1) σ10
    )
set_option maxRecDepth 100000 in
set_option maxHeartbeats 4000000 in
theorem ok_X12_keep_84 {κ : Kd}    : ∀ (fu : Nat) (v1 : Int32) (v2 : Int32) (σ : Sg) (q : Sg), f_X12_keep_84 fu v1 v2 σ = some q → AW κ pX12_keep 2 (none, q) 84 [some (aR 12 0 0), some (aI v1), some (aI v2), none] [] σ := by
  intro fu
  induction fu with
  | zero =>
    intro v1 v2 σ q h
    unfold f_X12_keep_84 at h
    cases h
  | succ fu ih =>
    intro v1 v2 σ q h
    unfold f_X12_keep_84 at h
    refine aw_seq [(.iload_n 2, 1, ax0), (.iconst 4, 1, (axI 4))] (pc' := 86) (L' := [some (aR 12 0 0), some (aI v1), some (aI v2), none]) (stk' := [aI 4, aI v2]) (σ' := σ) (g := []) (by decide +kernel) rfl rfl ?_
    refine aw_icmp_ge (off := 28) (tgt := 114) (by decide +kernel) (by decide) (fun c1 => ?_) (fun c1 => ?_)
    · rw [if_pos c1] at h
      refine aw_seq [(.iconst 0, 1, (axI 0)), (.istore_n 2, 1, ax0)] (pc' := 116) (L' := [some (aR 12 0 0), some (aI v1), some (aI 0), none]) (stk' := []) (σ' := σ) (g := []) (by decide +kernel) rfl rfl ?_
      refine aw_forget (L' := [some (aR 12 0 0), some (aI v1), some (aI 0), none]) (lsub_s (lsub_s (lsub_s (lsub_n (lsub_0))))) ?_
      exact ok_X12_keep_116 FU v1 0 σ _ h
    · rw [if_neg c1] at h
      obtain ⟨hg, h⟩ := grd_some h
      obtain ⟨σ10, e11, h⟩ := ltσ_some h
      refine aw_seq [(.aload_n 0, 1, ax0), (.getfield 7, 3, (axF 12 0 (2, 1, 13, some 1986))), (.iload_n 1, 1, ax0), (.iconst 1, 1, (axI 1)), (.iadd, 1, ax0), (.iload_n 2, 1, ax0), (.iadd, 1, ax0), (.aload_n 0, 1, ax0), (.getfield 7, 3, (axF 12 0 (2, 1, 13, some 1986))), (.bipush 6, 2, (axI 6)), (.iload_n 2, 1, ax0), (.iadd, 1, ax0), (.iaload, 1, ax0), (.iastore, 1, ax0)] (pc' := 108) (L' := [some (aR 12 0 0), some (aI v1), some (aI v2), none]) (stk' := []) (σ' := σ10) (g := [inb (6 + v2) 1986, inb ((v1 + 1) + v2) 1986]) (by decide +kernel) (by rw [e11]; rfl) hg ?_
      refine aw_seq [(.iinc 2 1, 3, (axI 1))] (pc' := 111) (L' := [some (aR 12 0 0), some (aI v1), some (aI (v2 + 1)), none]) (stk' := []) (σ' := σ10) (g := []) (by decide +kernel) rfl rfl ?_
      refine aw_goto (off := (-27)) (tgt := 84) (by decide +kernel) (by decide) ?_
      refine aw_forget (L' := [some (aR 12 0 0), some (aI v1), some (aI (v2 + 1)), none]) (lsub_s (lsub_s (lsub_s (lsub_n (lsub_0))))) ?_
      exact ih v1 (v2 + 1) σ10 _ h
def f_X12_keep_56    (σ : Sg) : Option Sg :=
  grd (inb 3 1986 && (inb 0 1986 && (inb (186 + (59 * (σ.1 1 (ix 3)))) 1986 && true))) <|
  ltσ (wI σ 1 (ix (186 + (59 * (σ.1 1 (ix 3))))) (σ.1 1 (ix 0))) fun σ12 =>
  f_X12_keep_84 FU (186 + (59 * (σ.1 1 (ix 3)))) 0 σ12
set_option maxRecDepth 100000 in
set_option maxHeartbeats 4000000 in
theorem ok_X12_keep_56 {κ : Kd}    : ∀  (σ : Sg) (q : Sg), f_X12_keep_56  σ = some q → AW κ pX12_keep 2 (none, q) 56 [some (aR 12 0 0), none, none, none] [] σ := by
  intro  σ q h
  unfold f_X12_keep_56 at h
  obtain ⟨hg, h⟩ := grd_some h
  obtain ⟨σ12, e13, h⟩ := ltσ_some h
  refine aw_seq [(.sipush 186, 3, (axI 186)), (.bipush 59, 2, (axI 59)), (.aload_n 0, 1, ax0), (.getfield 7, 3, (axF 12 0 (2, 1, 13, some 1986))), (.iconst 3, 1, (axI 3)), (.iaload, 1, ax0), (.imul, 1, ax0), (.iadd, 1, ax0), (.istore_n 1, 1, ax0), (.aload_n 0, 1, ax0), (.getfield 7, 3, (axF 12 0 (2, 1, 13, some 1986))), (.iload_n 1, 1, ax0), (.aload_n 0, 1, ax0), (.getfield 7, 3, (axF 12 0 (2, 1, 13, some 1986))), (.iconst 0, 1, (axI 0)), (.iaload, 1, ax0), (.iastore, 1, ax0)] (pc' := 82) (L' := [some (aR 12 0 0), some (aI (186 + (59 * (σ.1 1 (ix 3))))), none, none]) (stk' := []) (σ' := σ12) (g := [inb 3 1986, inb 0 1986, inb (186 + (59 * (σ.1 1 (ix 3)))) 1986]) (by decide +kernel) (by rw [e13]; rfl) hg ?_
  refine aw_seq [(.iconst 0, 1, (axI 0)), (.istore_n 2, 1, ax0)] (pc' := 84) (L' := [some (aR 12 0 0), some (aI (186 + (59 * (σ.1 1 (ix 3))))), some (aI 0), none]) (stk' := []) (σ' := σ12) (g := []) (by decide +kernel) rfl rfl ?_
  refine aw_forget (L' := [some (aR 12 0 0), some (aI (186 + (59 * (σ.1 1 (ix 3))))), some (aI 0), none]) (lsub_s (lsub_s (lsub_s (lsub_n (lsub_0))))) ?_
  exact ok_X12_keep_84 FU (186 + (59 * (σ.1 1 (ix 3)))) 0 σ12 _ h
def f_X12_keep_13   : Nat → Int32 → Sg → Option Sg
  | 0, _, _ => none
  | fu + 1, v1, σ =>
    if 1711 ≤ v1 then (
      grd (inb 3 1986 && (inb 3 1986 && true)) <|
      ltσ (wI σ 1 (ix 3) ((σ.1 1 (ix 3)) - 1)) fun σ14 =>
      f_X12_keep_56 σ14
    ) else (
      grd (inb (245 + v1) 1986 && (inb (186 + v1) 1986 && true)) <|
      ltσ (wI σ 1 (ix (186 + v1)) (σ.1 1 (ix (245 + v1)))) fun σ16 =>
      (f_X12_keep_13 fu) (v1 + 1) σ16
    )
set_option maxRecDepth 100000 in
set_option maxHeartbeats 4000000 in
theorem ok_X12_keep_13 {κ : Kd}    : ∀ (fu : Nat) (v1 : Int32) (σ : Sg) (q : Sg), f_X12_keep_13 fu v1 σ = some q → AW κ pX12_keep 2 (none, q) 13 [some (aR 12 0 0), some (aI v1), none, none] [] σ := by
  intro fu
  induction fu with
  | zero =>
    intro v1 σ q h
    unfold f_X12_keep_13 at h
    cases h
  | succ fu ih =>
    intro v1 σ q h
    unfold f_X12_keep_13 at h
    refine aw_seq [(.iload_n 1, 1, ax0), (.sipush 1711, 3, (axI 1711))] (pc' := 17) (L' := [some (aR 12 0 0), some (aI v1), none, none]) (stk' := [aI 1711, aI v1]) (σ' := σ) (g := []) (by decide +kernel) rfl rfl ?_
    refine aw_icmp_ge (off := 29) (tgt := 46) (by decide +kernel) (by decide) (fun c1 => ?_) (fun c1 => ?_)
    · rw [if_pos c1] at h
      obtain ⟨hg, h⟩ := grd_some h
      obtain ⟨σ14, e15, h⟩ := ltσ_some h
      refine aw_seq [(.aload_n 0, 1, ax0), (.getfield 7, 3, (axF 12 0 (2, 1, 13, some 1986))), (.iconst 3, 1, (axI 3)), (.dup2, 1, ax0), (.iaload, 1, ax0), (.iconst 1, 1, (axI 1)), (.isub, 1, ax0), (.iastore, 1, ax0)] (pc' := 56) (L' := [some (aR 12 0 0), some (aI v1), none, none]) (stk' := []) (σ' := σ14) (g := [inb 3 1986, inb 3 1986]) (by decide +kernel) (by rw [e15]; rfl) hg ?_
      refine aw_forget (L' := [some (aR 12 0 0), none, none, none]) (lsub_s (lsub_n (lsub_n (lsub_n (lsub_0))))) ?_
      exact ok_X12_keep_56 σ14 _ h
    · rw [if_neg c1] at h
      obtain ⟨hg, h⟩ := grd_some h
      obtain ⟨σ16, e17, h⟩ := ltσ_some h
      refine aw_seq [(.aload_n 0, 1, ax0), (.getfield 7, 3, (axF 12 0 (2, 1, 13, some 1986))), (.sipush 186, 3, (axI 186)), (.iload_n 1, 1, ax0), (.iadd, 1, ax0), (.aload_n 0, 1, ax0), (.getfield 7, 3, (axF 12 0 (2, 1, 13, some 1986))), (.sipush 245, 3, (axI 245)), (.iload_n 1, 1, ax0), (.iadd, 1, ax0), (.iaload, 1, ax0), (.iastore, 1, ax0)] (pc' := 40) (L' := [some (aR 12 0 0), some (aI v1), none, none]) (stk' := []) (σ' := σ16) (g := [inb (245 + v1) 1986, inb (186 + v1) 1986]) (by decide +kernel) (by rw [e17]; rfl) hg ?_
      refine aw_seq [(.iinc 1 1, 3, (axI 1))] (pc' := 43) (L' := [some (aR 12 0 0), some (aI (v1 + 1)), none, none]) (stk' := []) (σ' := σ16) (g := []) (by decide +kernel) rfl rfl ?_
      refine aw_goto (off := (-30)) (tgt := 13) (by decide +kernel) (by decide) ?_
      refine aw_forget (L' := [some (aR 12 0 0), some (aI (v1 + 1)), none, none]) (lsub_s (lsub_s (lsub_n (lsub_n (lsub_0))))) ?_
      exact ih (v1 + 1) σ16 _ h
def f_X12_keep  (σ : Sg) : Option Sg :=
  grd (inb 3 1986 && true) <|
  if (σ.1 1 (ix 3)) = 30 then (
    f_X12_keep_13 FU 0 σ
  ) else (
    f_X12_keep_56 σ
  )
set_option maxRecDepth 100000 in
set_option maxHeartbeats 4000000 in
theorem ok_X12_keep {κ : Kd}  {σ : Sg} {q : Sg} (h : f_X12_keep σ = some q) : AMet κ pX12_keep 2 [aR 12 0 0] σ (none, q) := by
  unfold f_X12_keep at h
  refine amet_of okp_X12_keep [(false, aR 12 0 0)] (List.forall_mem_cons.mpr ⟨rfl, (fun _ hn => absurd hn List.not_mem_nil)⟩) 3 rfl ?_
  show AW κ pX12_keep 2 (none, q) 0 [some (aR 12 0 0), none, none, none] [] σ
  obtain ⟨hg, h⟩ := grd_some h
  refine aw_seq [(.aload_n 0, 1, ax0), (.getfield 7, 3, (axF 12 0 (2, 1, 13, some 1986))), (.iconst 3, 1, (axI 3)), (.iaload, 1, ax0), (.bipush 30, 2, (axI 30))] (pc' := 8) (L' := [some (aR 12 0 0), none, none, none]) (stk' := [aI 30, aI (σ.1 1 (ix 3))]) (σ' := σ) (g := [inb 3 1986]) (by decide +kernel) rfl hg ?_
  refine aw_icmp_ne (off := 48) (tgt := 56) (by decide +kernel) (by decide) (fun c1 => ?_) (fun c1 => ?_)
  · rw [if_neg c1] at h
    refine aw_forget (L' := [some (aR 12 0 0), none, none, none]) (lsub_s (lsub_n (lsub_n (lsub_n (lsub_0))))) ?_
    exact ok_X12_keep_56 σ _ h
  · rw [if_pos c1] at h
    refine aw_seq [(.iconst 0, 1, (axI 0)), (.istore_n 1, 1, ax0)] (pc' := 13) (L' := [some (aR 12 0 0), some (aI 0), none, none]) (stk' := []) (σ' := σ) (g := []) (by decide +kernel) rfl rfl ?_
    refine aw_forget (L' := [some (aR 12 0 0), some (aI 0), none, none]) (lsub_s (lsub_s (lsub_n (lsub_n (lsub_0))))) ?_
    exact ok_X12_keep_13 FU 0 σ _ h
def f_X12_undo_137  (rec_69 : Int32 → Int32 → Sg → Option (Int32 × Sg)) (v1 : Int32) (v2 : Int32) (σ : Sg) : Option (Int32 × Sg) :=
  rec_69 v1 (v2 + 1) σ
set_option maxRecDepth 100000 in
set_option maxHeartbeats 4000000 in
theorem ok_X12_undo_137 {κ : Kd}   {rec_69 : Int32 → Int32 → Sg → Option (Int32 × Sg)} (hrec_69 : ∀ (v1 : Int32) (v2 : Int32) (σ : Sg) (q : (Int32 × Sg)), rec_69 v1 v2 σ = some q → AW κ pX12_undo 3 (some (aI q.1), q.2) 69 [some (aR 12 0 0), some (aI v1), some (aI v2), none] [] σ) : ∀ (v1 : Int32) (v2 : Int32) (σ : Sg) (q : (Int32 × Sg)), f_X12_undo_137 rec_69 v1 v2 σ = some q → AW κ pX12_undo 3 (some (aI q.1), q.2) 137 [some (aR 12 0 0), some (aI v1), some (aI v2), none] [] σ := by
  intro v1 v2 σ q h
  unfold f_X12_undo_137 at h
  refine aw_seq [(.iinc 2 1, 3, (axI 1))] (pc' := 140) (L' := [some (aR 12 0 0), some (aI v1), some (aI (v2 + 1)), none]) (stk' := []) (σ' := σ) (g := []) (by decide +kernel) rfl rfl ?_
  refine aw_goto (off := (-71)) (tgt := 69) (by decide +kernel) (by decide) ?_
  refine aw_forget (L' := [some (aR 12 0 0), some (aI v1), some (aI (v2 + 1)), none]) (lsub_s (lsub_s (lsub_s (lsub_n (lsub_0))))) ?_
  exact hrec_69 v1 (v2 + 1) σ _ h
def f_X12_undo_96  (rec_69 : Int32 → Int32 → Sg → Option (Int32 × Sg)) : Nat → Int32 → Int32 → Int32 → Sg → Option (Int32 × Sg)
  | 0, _, _, _, _ => none
  | fu + 1, v1, v2, v3, σ =>
    if 3 ≤ v3 then (
      f_X12_undo_137 rec_69 v1 v2 σ
    ) else (
      grd (inb v1 1986 && true) <|
      if (σ.1 1 (ix v1)) ≤ v2 then (
        f_X12_undo_137 rec_69 v1 v2 σ
      ) else (
        grd (inb (((v1 + 5) + (3 * v2)) + v3) 1986 && true) <|
        bndV (f_X12_put v2 v3 (σ.1 1 (ix (((v1 + 5) + (3 * v2)) + v3))) σ) fun σ2 =>
        (f_X12_undo_96 rec_69 fu) v1 v2 (v3 + 1) σ2
      )
    )
set_option maxRecDepth 100000 in
set_option maxHeartbeats 4000000 in
theorem ok_X12_undo_96 {κ : Kd}   {rec_69 : Int32 → Int32 → Sg → Option (Int32 × Sg)} (hrec_69 : ∀ (v1 : Int32) (v2 : Int32) (σ : Sg) (q : (Int32 × Sg)), rec_69 v1 v2 σ = some q → AW κ pX12_undo 3 (some (aI q.1), q.2) 69 [some (aR 12 0 0), some (aI v1), some (aI v2), none] [] σ) : ∀ (fu : Nat) (v1 : Int32) (v2 : Int32) (v3 : Int32) (σ : Sg) (q : (Int32 × Sg)), f_X12_undo_96 rec_69 fu v1 v2 v3 σ = some q → AW κ pX12_undo 3 (some (aI q.1), q.2) 96 [some (aR 12 0 0), some (aI v1), some (aI v2), some (aI v3)] [] σ := by
  intro fu
  induction fu with
  | zero =>
    intro v1 v2 v3 σ q h
    unfold f_X12_undo_96 at h
    cases h
  | succ fu ih =>
    intro v1 v2 v3 σ q h
    unfold f_X12_undo_96 at h
    refine aw_seq [(.iload_n 3, 1, ax0), (.iconst 3, 1, (axI 3))] (pc' := 98) (L' := [some (aR 12 0 0), some (aI v1), some (aI v2), some (aI v3)]) (stk' := [aI 3, aI v3]) (σ' := σ) (g := []) (by decide +kernel) rfl rfl ?_
    refine aw_icmp_ge (off := 39) (tgt := 137) (by decide +kernel) (by decide) (fun c1 => ?_) (fun c1 => ?_)
    · rw [if_pos c1] at h
      refine aw_forget (L' := [some (aR 12 0 0), some (aI v1), some (aI v2), none]) (lsub_s (lsub_s (lsub_s (lsub_n (lsub_0))))) ?_
      exact ok_X12_undo_137 hrec_69 v1 v2 σ _ h
    · rw [if_neg c1] at h
      obtain ⟨hg, h⟩ := grd_some h
      refine aw_seq [(.iload_n 2, 1, ax0), (.aload_n 0, 1, ax0), (.getfield 7, 3, (axF 12 0 (2, 1, 13, some 1986))), (.iload_n 1, 1, ax0), (.iaload, 1, ax0)] (pc' := 108) (L' := [some (aR 12 0 0), some (aI v1), some (aI v2), some (aI v3)]) (stk' := [aI (σ.1 1 (ix v1)), aI v2]) (σ' := σ) (g := [inb v1 1986]) (by decide +kernel) rfl hg ?_
      refine aw_icmp_ge (off := 29) (tgt := 137) (by decide +kernel) (by decide) (fun c1 => ?_) (fun c1 => ?_)
      · rw [if_pos c1] at h
        refine aw_forget (L' := [some (aR 12 0 0), some (aI v1), some (aI v2), none]) (lsub_s (lsub_s (lsub_s (lsub_n (lsub_0))))) ?_
        exact ok_X12_undo_137 hrec_69 v1 v2 σ _ h
      · rw [if_neg c1] at h
        obtain ⟨hg, h⟩ := grd_some h
        refine aw_seq [(.aload_n 0, 1, ax0), (.iload_n 2, 1, ax0), (.iload_n 3, 1, ax0), (.aload_n 0, 1, ax0), (.getfield 7, 3, (axF 12 0 (2, 1, 13, some 1986))), (.iload_n 1, 1, ax0), (.iconst 5, 1, (axI 5)), (.iadd, 1, ax0), (.iconst 3, 1, (axI 3)), (.iload_n 2, 1, ax0), (.imul, 1, ax0), (.iadd, 1, ax0), (.iload_n 3, 1, ax0), (.iadd, 1, ax0), (.iaload, 1, ax0)] (pc' := 128) (L' := [some (aR 12 0 0), some (aI v1), some (aI v2), some (aI v3)]) (stk' := [aI (σ.1 1 (ix (((v1 + 5) + (3 * v2)) + v3))), aI v3, aI v2, aR 12 0 0]) (σ' := σ) (g := [inb (((v1 + 5) + (3 * v2)) + v3) 1986]) (by decide +kernel) rfl hg ?_
        obtain ⟨σ2, h1, h⟩ := bndV_some h
        refine aw_cV (P' := pX12_put) (idx := 80) (d' := 1) (c := 12) (n := 0) (k := 0) [aI v2, aI v3, aI (σ.1 1 (ix (((v1 + 5) + (3 * v2)) + v3)))] [] (ov := none) (stk2 := []) okp_X12_put (by decide +kernel) ml_RX12_80 vok_X12_put (by decide) rfl nar_X12_put (by decide) rfl (Nat.le_of_ble_eq_true rfl) (ok_X12_put h1) rfl ?_
        refine aw_seq [(.iinc 3 1, 3, (axI 1))] (pc' := 134) (L' := [some (aR 12 0 0), some (aI v1), some (aI v2), some (aI (v3 + 1))]) (stk' := []) (σ' := σ2) (g := []) (by decide +kernel) rfl rfl ?_
        refine aw_goto (off := (-38)) (tgt := 96) (by decide +kernel) (by decide) ?_
        refine aw_forget (L' := [some (aR 12 0 0), some (aI v1), some (aI v2), some (aI (v3 + 1))]) (lsub_s (lsub_s (lsub_s (lsub_s (lsub_0))))) ?_
        exact ih v1 v2 (v3 + 1) σ2 _ h
def f_X12_undo_94  (rec_69 : Int32 → Int32 → Sg → Option (Int32 × Sg)) (v1 : Int32) (v2 : Int32) (σ : Sg) : Option (Int32 × Sg) :=
  f_X12_undo_96 rec_69 FU v1 v2 0 σ
set_option maxRecDepth 100000 in
set_option maxHeartbeats 4000000 in
theorem ok_X12_undo_94 {κ : Kd}   {rec_69 : Int32 → Int32 → Sg → Option (Int32 × Sg)} (hrec_69 : ∀ (v1 : Int32) (v2 : Int32) (σ : Sg) (q : (Int32 × Sg)), rec_69 v1 v2 σ = some q → AW κ pX12_undo 3 (some (aI q.1), q.2) 69 [some (aR 12 0 0), some (aI v1), some (aI v2), none] [] σ) : ∀ (v1 : Int32) (v2 : Int32) (σ : Sg) (q : (Int32 × Sg)), f_X12_undo_94 rec_69 v1 v2 σ = some q → AW κ pX12_undo 3 (some (aI q.1), q.2) 94 [some (aR 12 0 0), some (aI v1), some (aI v2), none] [] σ := by
  intro v1 v2 σ q h
  unfold f_X12_undo_94 at h
  refine aw_seq [(.iconst 0, 1, (axI 0)), (.istore_n 3, 1, ax0)] (pc' := 96) (L' := [some (aR 12 0 0), some (aI v1), some (aI v2), some (aI 0)]) (stk' := []) (σ' := σ) (g := []) (by decide +kernel) rfl rfl ?_
  refine aw_forget (L' := [some (aR 12 0 0), some (aI v1), some (aI v2), some (aI 0)]) (lsub_s (lsub_s (lsub_s (lsub_s (lsub_0))))) ?_
  exact ok_X12_undo_96 hrec_69 FU v1 v2 0 σ _ h
def f_X12_undo_145   : Nat → Int32 → Int32 → Sg → Option (Int32 × Sg)
  | 0, _, _, _ => none
  | fu + 1, v1, v2, σ =>
    if 30 ≤ v2 then (
      grd (inb 3 1986 && true) <|
      some ((σ.1 1 (ix 3)), σ)
    ) else (
      grd (inb ((v1 + 29) + v2) 1986 && (inb (1956 + v2) 1986 && true)) <|
      ltσ (wI σ 1 (ix (1956 + v2)) (σ.1 1 (ix ((v1 + 29) + v2)))) fun σ3 =>
      (f_X12_undo_145 fu) v1 (v2 + 1) σ3
    )
set_option maxRecDepth 100000 in
set_option maxHeartbeats 4000000 in
theorem ok_X12_undo_145 {κ : Kd}    : ∀ (fu : Nat) (v1 : Int32) (v2 : Int32) (σ : Sg) (q : (Int32 × Sg)), f_X12_undo_145 fu v1 v2 σ = some q → AW κ pX12_undo 3 (some (aI q.1), q.2) 145 [some (aR 12 0 0), some (aI v1), some (aI v2), none] [] σ := by
  intro fu
  induction fu with
  | zero =>
    intro v1 v2 σ q h
    unfold f_X12_undo_145 at h
    cases h
  | succ fu ih =>
    intro v1 v2 σ q h
    unfold f_X12_undo_145 at h
    refine aw_seq [(.iload_n 2, 1, ax0), (.bipush 30, 2, (axI 30))] (pc' := 148) (L' := [some (aR 12 0 0), some (aI v1), some (aI v2), none]) (stk' := [aI 30, aI v2]) (σ' := σ) (g := []) (by decide +kernel) rfl rfl ?_
    refine aw_icmp_ge (off := 30) (tgt := 178) (by decide +kernel) (by decide) (fun c1 => ?_) (fun c1 => ?_)
    · rw [if_pos c1] at h
      obtain ⟨hg, h⟩ := grd_some h
      refine aw_seq [(.aload_n 0, 1, ax0), (.getfield 7, 3, (axF 12 0 (2, 1, 13, some 1986))), (.iconst 3, 1, (axI 3)), (.iaload, 1, ax0)] (pc' := 184) (L' := [some (aR 12 0 0), some (aI v1), some (aI v2), none]) (stk' := [aI (σ.1 1 (ix 3))]) (σ' := σ) (g := [inb 3 1986]) (by decide +kernel) rfl hg ?_
      cases h
      exact aw_iret rfl (by decide +kernel)
    · rw [if_neg c1] at h
      obtain ⟨hg, h⟩ := grd_some h
      obtain ⟨σ3, e4, h⟩ := ltσ_some h
      refine aw_seq [(.aload_n 0, 1, ax0), (.getfield 7, 3, (axF 12 0 (2, 1, 13, some 1986))), (.sipush 1956, 3, (axI 1956)), (.iload_n 2, 1, ax0), (.iadd, 1, ax0), (.aload_n 0, 1, ax0), (.getfield 7, 3, (axF 12 0 (2, 1, 13, some 1986))), (.iload_n 1, 1, ax0), (.bipush 29, 2, (axI 29)), (.iadd, 1, ax0), (.iload_n 2, 1, ax0), (.iadd, 1, ax0), (.iaload, 1, ax0), (.iastore, 1, ax0)] (pc' := 172) (L' := [some (aR 12 0 0), some (aI v1), some (aI v2), none]) (stk' := []) (σ' := σ3) (g := [inb ((v1 + 29) + v2) 1986, inb (1956 + v2) 1986]) (by decide +kernel) (by rw [e4]; rfl) hg ?_
      refine aw_seq [(.iinc 2 1, 3, (axI 1))] (pc' := 175) (L' := [some (aR 12 0 0), some (aI v1), some (aI (v2 + 1)), none]) (stk' := []) (σ' := σ3) (g := []) (by decide +kernel) rfl rfl ?_
      refine aw_goto (off := (-30)) (tgt := 145) (by decide +kernel) (by decide) ?_
      refine aw_forget (L' := [some (aR 12 0 0), some (aI v1), some (aI (v2 + 1)), none]) (lsub_s (lsub_s (lsub_s (lsub_n (lsub_0))))) ?_
      exact ih v1 (v2 + 1) σ3 _ h
def f_X12_undo_69   : Nat → Int32 → Int32 → Sg → Option (Int32 × Sg)
  | 0, _, _, _ => none
  | fu + 1, v1, v2, σ =>
    grd (inb 0 1986 && true) <|
    if (σ.1 1 (ix 0)) ≤ v2 then (
      f_X12_undo_145 FU v1 0 σ
    ) else (
      grd (inb v1 1986 && true) <|
      if v2 < (σ.1 1 (ix v1)) then (
        f_X12_undo_94 (f_X12_undo_69 fu) v1 v2 σ
      ) else (
        bndV (f_X12_begin v2 σ) fun σ6 =>
        f_X12_undo_94 (f_X12_undo_69 fu) v1 v2 σ6
      )
    )
set_option maxRecDepth 100000 in
set_option maxHeartbeats 4000000 in
theorem ok_X12_undo_69 {κ : Kd}    : ∀ (fu : Nat) (v1 : Int32) (v2 : Int32) (σ : Sg) (q : (Int32 × Sg)), f_X12_undo_69 fu v1 v2 σ = some q → AW κ pX12_undo 3 (some (aI q.1), q.2) 69 [some (aR 12 0 0), some (aI v1), some (aI v2), none] [] σ := by
  intro fu
  induction fu with
  | zero =>
    intro v1 v2 σ q h
    unfold f_X12_undo_69 at h
    cases h
  | succ fu ih =>
    intro v1 v2 σ q h
    unfold f_X12_undo_69 at h
    obtain ⟨hg, h⟩ := grd_some h
    refine aw_seq [(.iload_n 2, 1, ax0), (.aload_n 0, 1, ax0), (.getfield 7, 3, (axF 12 0 (2, 1, 13, some 1986))), (.iconst 0, 1, (axI 0)), (.iaload, 1, ax0)] (pc' := 76) (L' := [some (aR 12 0 0), some (aI v1), some (aI v2), none]) (stk' := [aI (σ.1 1 (ix 0)), aI v2]) (σ' := σ) (g := [inb 0 1986]) (by decide +kernel) rfl hg ?_
    refine aw_icmp_ge (off := 67) (tgt := 143) (by decide +kernel) (by decide) (fun c1 => ?_) (fun c1 => ?_)
    · rw [if_pos c1] at h
      refine aw_seq [(.iconst 0, 1, (axI 0)), (.istore_n 2, 1, ax0)] (pc' := 145) (L' := [some (aR 12 0 0), some (aI v1), some (aI 0), none]) (stk' := []) (σ' := σ) (g := []) (by decide +kernel) rfl rfl ?_
      refine aw_forget (L' := [some (aR 12 0 0), some (aI v1), some (aI 0), none]) (lsub_s (lsub_s (lsub_s (lsub_n (lsub_0))))) ?_
      exact ok_X12_undo_145 FU v1 0 σ _ h
    · rw [if_neg c1] at h
      obtain ⟨hg, h⟩ := grd_some h
      refine aw_seq [(.iload_n 2, 1, ax0), (.aload_n 0, 1, ax0), (.getfield 7, 3, (axF 12 0 (2, 1, 13, some 1986))), (.iload_n 1, 1, ax0), (.iaload, 1, ax0)] (pc' := 86) (L' := [some (aR 12 0 0), some (aI v1), some (aI v2), none]) (stk' := [aI (σ.1 1 (ix v1)), aI v2]) (σ' := σ) (g := [inb v1 1986]) (by decide +kernel) rfl hg ?_
      refine aw_icmp_lt (off := 8) (tgt := 94) (by decide +kernel) (by decide) (fun c1 => ?_) (fun c1 => ?_)
      · rw [if_pos c1] at h
        refine aw_forget (L' := [some (aR 12 0 0), some (aI v1), some (aI v2), none]) (lsub_s (lsub_s (lsub_s (lsub_n (lsub_0))))) ?_
        exact ok_X12_undo_94 ih v1 v2 σ _ h
      · rw [if_neg c1] at h
        refine aw_seq [(.aload_n 0, 1, ax0), (.iload_n 2, 1, ax0)] (pc' := 91) (L' := [some (aR 12 0 0), some (aI v1), some (aI v2), none]) (stk' := [aI v2, aR 12 0 0]) (σ' := σ) (g := []) (by decide +kernel) rfl rfl ?_
        obtain ⟨σ6, h5, h⟩ := bndV_some h
        refine aw_cV (P' := pX12_begin) (idx := 84) (d' := 2) (c := 12) (n := 0) (k := 0) [aI v2] [] (ov := none) (stk2 := []) okp_X12_begin (by decide +kernel) ml_RX12_84 vok_X12_begin (by decide) rfl nar_X12_begin (by decide) rfl (Nat.le_of_ble_eq_true rfl) (ok_X12_begin h5) rfl ?_
        refine aw_forget (L' := [some (aR 12 0 0), some (aI v1), some (aI v2), none]) (lsub_s (lsub_s (lsub_s (lsub_n (lsub_0))))) ?_
        exact ok_X12_undo_94 ih v1 v2 σ6 _ h
def f_X12_undo_37   : Nat → Int32 → Int32 → Sg → Option (Int32 × Sg)
  | 0, _, _, _ => none
  | fu + 1, v1, v2, σ =>
    if 4 ≤ v2 then (
      f_X12_undo_69 FU v1 0 σ
    ) else (
      grd (inb ((v1 + 1) + v2) 1986 && (inb (6 + v2) 1986 && true)) <|
      ltσ (wI σ 1 (ix (6 + v2)) (σ.1 1 (ix ((v1 + 1) + v2)))) fun σ7 =>
      (f_X12_undo_37 fu) v1 (v2 + 1) σ7
    )
set_option maxRecDepth 100000 in
set_option maxHeartbeats 4000000 in
theorem ok_X12_undo_37 {κ : Kd}    : ∀ (fu : Nat) (v1 : Int32) (v2 : Int32) (σ : Sg) (q : (Int32 × Sg)), f_X12_undo_37 fu v1 v2 σ = some q → AW κ pX12_undo 3 (some (aI q.1), q.2) 37 [some (aR 12 0 0), some (aI v1), some (aI v2), none] [] σ := by
  intro fu
  induction fu with
  | zero =>
    intro v1 v2 σ q h
    unfold f_X12_undo_37 at h
    cases h
  | succ fu ih =>
    intro v1 v2 σ q h
    unfold f_X12_undo_37 at h
    refine aw_seq [(.iload_n 2, 1, ax0), (.iconst 4, 1, (axI 4))] (pc' := 39) (L' := [some (aR 12 0 0), some (aI v1), some (aI v2), none]) (stk' := [aI 4, aI v2]) (σ' := σ) (g := []) (by decide +kernel) rfl rfl ?_
    refine aw_icmp_ge (off := 28) (tgt := 67) (by decide +kernel) (by decide) (fun c1 => ?_) (fun c1 => ?_)
    · rw [if_pos c1] at h
      refine aw_seq [(.iconst 0, 1, (axI 0)), (.istore_n 2, 1, ax0)] (pc' := 69) (L' := [some (aR 12 0 0), some (aI v1), some (aI 0), none]) (stk' := []) (σ' := σ) (g := []) (by decide +kernel) rfl rfl ?_
      refine aw_forget (L' := [some (aR 12 0 0), some (aI v1), some (aI 0), none]) (lsub_s (lsub_s (lsub_s (lsub_n (lsub_0))))) ?_
      exact ok_X12_undo_69 FU v1 0 σ _ h
    · rw [if_neg c1] at h
      obtain ⟨hg, h⟩ := grd_some h
      obtain ⟨σ7, e8, h⟩ := ltσ_some h
      refine aw_seq [(.aload_n 0, 1, ax0), (.getfield 7, 3, (axF 12 0 (2, 1, 13, some 1986))), (.bipush 6, 2, (axI 6)), (.iload_n 2, 1, ax0), (.iadd, 1, ax0), (.aload_n 0, 1, ax0), (.getfield 7, 3, (axF 12 0 (2, 1, 13, some 1986))), (.iload_n 1, 1, ax0), (.iconst 1, 1, (axI 1)), (.iadd, 1, ax0), (.iload_n 2, 1, ax0), (.iadd, 1, ax0), (.iaload, 1, ax0), (.iastore, 1, ax0)] (pc' := 61) (L' := [some (aR 12 0 0), some (aI v1), some (aI v2), none]) (stk' := []) (σ' := σ7) (g := [inb ((v1 + 1) + v2) 1986, inb (6 + v2) 1986]) (by decide +kernel) (by rw [e8]; rfl) hg ?_
      refine aw_seq [(.iinc 2 1, 3, (axI 1))] (pc' := 64) (L' := [some (aR 12 0 0), some (aI v1), some (aI (v2 + 1)), none]) (stk' := []) (σ' := σ7) (g := []) (by decide +kernel) rfl rfl ?_
      refine aw_goto (off := (-27)) (tgt := 37) (by decide +kernel) (by decide) ?_
      refine aw_forget (L' := [some (aR 12 0 0), some (aI v1), some (aI (v2 + 1)), none]) (lsub_s (lsub_s (lsub_s (lsub_n (lsub_0))))) ?_
      exact ih v1 (v2 + 1) σ7 _ h
def f_X12_undo  (σ : Sg) : Option (Int32 × Sg) :=
  grd (inb 3 1986 && true) <|
  if (σ.1 1 (ix 3)) = 0 then (
    some ((-1), σ)
  ) else (
    grd (inb 3 1986 && (inb 3 1986 && true)) <|
    ltσ (wI σ 1 (ix 3) ((σ.1 1 (ix 3)) - 1)) fun σ9 =>
    grd (inb 3 1986 && true) <|
    f_X12_undo_37 FU (186 + (59 * (σ9.1 1 (ix 3)))) 0 σ9
  )
set_option maxRecDepth 100000 in
set_option maxHeartbeats 4000000 in
theorem ok_X12_undo {κ : Kd}  {σ : Sg} {q : (Int32 × Sg)} (h : f_X12_undo σ = some q) : AMet κ pX12_undo 3 [aR 12 0 0] σ (some (aI q.1), q.2) := by
  unfold f_X12_undo at h
  refine amet_of okp_X12_undo [(false, aR 12 0 0)] (List.forall_mem_cons.mpr ⟨rfl, (fun _ hn => absurd hn List.not_mem_nil)⟩) 3 rfl ?_
  show AW κ pX12_undo 3 (some (aI q.1), q.2) 0 [some (aR 12 0 0), none, none, none] [] σ
  obtain ⟨hg, h⟩ := grd_some h
  refine aw_seq [(.aload_n 0, 1, ax0), (.getfield 7, 3, (axF 12 0 (2, 1, 13, some 1986))), (.iconst 3, 1, (axI 3)), (.iaload, 1, ax0)] (pc' := 6) (L' := [some (aR 12 0 0), none, none, none]) (stk' := [aI (σ.1 1 (ix 3))]) (σ' := σ) (g := [inb 3 1986]) (by decide +kernel) rfl hg ?_
  refine aw_if_ne (off := 5) (tgt := 11) (by decide +kernel) (by decide) (fun c1 => ?_) (fun c1 => ?_)
  · rw [if_neg c1] at h
    obtain ⟨hg, h⟩ := grd_some h
    obtain ⟨σ9, e10, h⟩ := ltσ_some h
    refine aw_seq [(.aload_n 0, 1, ax0), (.getfield 7, 3, (axF 12 0 (2, 1, 13, some 1986))), (.iconst 3, 1, (axI 3)), (.dup2, 1, ax0), (.iaload, 1, ax0), (.iconst 1, 1, (axI 1)), (.isub, 1, ax0), (.iastore, 1, ax0)] (pc' := 21) (L' := [some (aR 12 0 0), none, none, none]) (stk' := []) (σ' := σ9) (g := [inb 3 1986, inb 3 1986]) (by decide +kernel) (by rw [e10]; rfl) hg ?_
    obtain ⟨hg, h⟩ := grd_some h
    refine aw_seq [(.sipush 186, 3, (axI 186)), (.bipush 59, 2, (axI 59)), (.aload_n 0, 1, ax0), (.getfield 7, 3, (axF 12 0 (2, 1, 13, some 1986))), (.iconst 3, 1, (axI 3)), (.iaload, 1, ax0), (.imul, 1, ax0), (.iadd, 1, ax0), (.istore_n 1, 1, ax0), (.iconst 0, 1, (axI 0)), (.istore_n 2, 1, ax0)] (pc' := 37) (L' := [some (aR 12 0 0), some (aI (186 + (59 * (σ9.1 1 (ix 3))))), some (aI 0), none]) (stk' := []) (σ' := σ9) (g := [inb 3 1986]) (by decide +kernel) rfl hg ?_
    refine aw_forget (L' := [some (aR 12 0 0), some (aI (186 + (59 * (σ9.1 1 (ix 3))))), some (aI 0), none]) (lsub_s (lsub_s (lsub_s (lsub_n (lsub_0))))) ?_
    exact ok_X12_undo_37 FU (186 + (59 * (σ9.1 1 (ix 3)))) 0 σ9 _ h
  · rw [if_pos c1] at h
    refine aw_seq [(.iconst (-1), 1, (axI (-1)))] (pc' := 10) (L' := [some (aR 12 0 0), none, none, none]) (stk' := [aI (-1)]) (σ' := σ) (g := []) (by decide +kernel) rfl rfl ?_
    cases h
    exact aw_iret rfl (by decide +kernel)
def f_X12_lightNow (v1 : Int32) (σ : Sg) : Option Sg :=
  bndV (f_X12_put v1 0 2 σ) fun σ2 =>
  bndV (f_X12_put v1 1 9 σ2) fun σ4 =>
  bndV (f_X12_write v1 0 σ4) fun σ6 =>
  some σ6
set_option maxRecDepth 100000 in
set_option maxHeartbeats 4000000 in
theorem ok_X12_lightNow {κ : Kd} {v1 : Int32} {σ : Sg} {q : Sg} (h : f_X12_lightNow v1 σ = some q) : AMet κ pX12_lightNow 2 [aR 12 0 0, aI v1] σ (none, q) := by
  unfold f_X12_lightNow at h
  refine amet_of okp_X12_lightNow [(false, aR 12 0 0), (false, aI v1)] (List.forall_mem_cons.mpr ⟨rfl, List.forall_mem_cons.mpr ⟨rfl, (fun _ hn => absurd hn List.not_mem_nil)⟩⟩) 0 rfl ?_
  show AW κ pX12_lightNow 2 (none, q) 0 [some (aR 12 0 0), some (aI v1)] [] σ
  refine aw_seq [(.aload_n 0, 1, ax0), (.iload_n 1, 1, ax0), (.iconst 0, 1, (axI 0)), (.iconst 2, 1, (axI 2))] (pc' := 4) (L' := [some (aR 12 0 0), some (aI v1)]) (stk' := [aI 2, aI 0, aI v1, aR 12 0 0]) (σ' := σ) (g := []) (by decide +kernel) rfl rfl ?_
  obtain ⟨σ2, h1, h⟩ := bndV_some h
  refine aw_cV (P' := pX12_put) (idx := 80) (d' := 1) (c := 12) (n := 0) (k := 0) [aI v1, aI 0, aI 2] [] (ov := none) (stk2 := []) okp_X12_put (by decide +kernel) ml_RX12_80 vok_X12_put (by decide) rfl nar_X12_put (by decide) rfl (Nat.le_of_ble_eq_true rfl) (ok_X12_put h1) rfl ?_
  refine aw_seq [(.aload_n 0, 1, ax0), (.iload_n 1, 1, ax0), (.iconst 1, 1, (axI 1)), (.bipush 9, 2, (axI 9))] (pc' := 12) (L' := [some (aR 12 0 0), some (aI v1)]) (stk' := [aI 9, aI 1, aI v1, aR 12 0 0]) (σ' := σ2) (g := []) (by decide +kernel) rfl rfl ?_
  obtain ⟨σ4, h3, h⟩ := bndV_some h
  refine aw_cV (P' := pX12_put) (idx := 80) (d' := 1) (c := 12) (n := 0) (k := 0) [aI v1, aI 1, aI 9] [] (ov := none) (stk2 := []) okp_X12_put (by decide +kernel) ml_RX12_80 vok_X12_put (by decide) rfl nar_X12_put (by decide) rfl (Nat.le_of_ble_eq_true rfl) (ok_X12_put h3) rfl ?_
  refine aw_seq [(.aload_n 0, 1, ax0), (.iload_n 1, 1, ax0), (.iconst 0, 1, (axI 0))] (pc' := 18) (L' := [some (aR 12 0 0), some (aI v1)]) (stk' := [aI 0, aI v1, aR 12 0 0]) (σ' := σ4) (g := []) (by decide +kernel) rfl rfl ?_
  obtain ⟨σ6, h5, h⟩ := bndV_some h
  refine aw_cV (P' := pX12_write) (idx := 328) (d' := 1) (c := 12) (n := 0) (k := 0) [aI v1, aI 0] [] (ov := none) (stk2 := []) okp_X12_write (by decide +kernel) ml_RX12_328 vok_X12_write (by decide) rfl nar_X12_write (by decide) rfl (Nat.le_of_ble_eq_true rfl) (ok_X12_write h5) rfl ?_
  cases h
  exact aw_vret rfl (by decide +kernel)
def f_X12_isSo_23   (s0 : Int32) (σ : Sg) : Option (Int32 × Sg) :=
  grd (bz s0) <| some (s0, σ)
set_option maxRecDepth 100000 in
set_option maxHeartbeats 4000000 in
theorem ok_X12_isSo_23 {κ : Kd}    : ∀ (s0 : Int32) (σ : Sg) (q : (Int32 × Sg)), f_X12_isSo_23 s0 σ = some q → AW κ pX12_isSo 3 (some (aI q.1), q.2) 23 [none, none, none] [aI s0] σ := by
  intro s0 σ q h
  unfold f_X12_isSo_23 at h
  obtain ⟨hg, h⟩ := grd_some h
  cases h
  exact aw_zret rfl hg (by decide +kernel)
def f_X12_isSo_22    (σ : Sg) : Option (Int32 × Sg) :=
  f_X12_isSo_23 0 σ
set_option maxRecDepth 100000 in
set_option maxHeartbeats 4000000 in
theorem ok_X12_isSo_22 {κ : Kd}    : ∀  (σ : Sg) (q : (Int32 × Sg)), f_X12_isSo_22  σ = some q → AW κ pX12_isSo 3 (some (aI q.1), q.2) 22 [none, none, none] [] σ := by
  intro  σ q h
  unfold f_X12_isSo_22 at h
  refine aw_seq [(.iconst 0, 1, (axI 0))] (pc' := 23) (L' := [none, none, none]) (stk' := [aI 0]) (σ' := σ) (g := []) (by decide +kernel) rfl rfl ?_
  refine aw_forget (L' := [none, none, none]) (lsub_n (lsub_n (lsub_n (lsub_0)))) ?_
  exact ok_X12_isSo_23 0 σ _ h
def f_X12_isSo (v1 : Int32) (v2 : Int32) (σ : Sg) : Option (Int32 × Sg) :=
  bnd (f_X12_isHouse v1 σ) fun r3 σ2 =>
  if r3 = 0 then (
    f_X12_isSo_22 σ2
  ) else (
    bnd (f_X12_get v1 0 σ2) fun r6 σ5 =>
    if r6 = v2 then (
      f_X12_isSo_23 1 σ5
    ) else (
      f_X12_isSo_22 σ5
    )
  )
set_option maxRecDepth 100000 in
set_option maxHeartbeats 4000000 in
theorem ok_X12_isSo {κ : Kd} {v1 : Int32} {v2 : Int32} {σ : Sg} {q : (Int32 × Sg)} (h : f_X12_isSo v1 v2 σ = some q) : AMet κ pX12_isSo 3 [aR 12 0 0, aI v1, aI v2] σ (some (aI q.1), q.2) := by
  unfold f_X12_isSo at h
  refine amet_of okp_X12_isSo [(false, aR 12 0 0), (false, aI v1), (false, aI v2)] (List.forall_mem_cons.mpr ⟨rfl, List.forall_mem_cons.mpr ⟨rfl, List.forall_mem_cons.mpr ⟨rfl, (fun _ hn => absurd hn List.not_mem_nil)⟩⟩⟩) 0 rfl ?_
  show AW κ pX12_isSo 3 (some (aI q.1), q.2) 0 [some (aR 12 0 0), some (aI v1), some (aI v2)] [] σ
  refine aw_seq [(.aload_n 0, 1, ax0), (.iload_n 1, 1, ax0)] (pc' := 2) (L' := [some (aR 12 0 0), some (aI v1), some (aI v2)]) (stk' := [aI v1, aR 12 0 0]) (σ' := σ) (g := []) (by decide +kernel) rfl rfl ?_
  obtain ⟨r3, σ2, h1, h⟩ := bnd_some h
  refine aw_cV (P' := pX12_isHouse) (idx := 88) (d' := 2) (c := 12) (n := 0) (k := 0) [aI v1] [] (ov := (some (aI r3))) (stk2 := [aI r3]) okp_X12_isHouse (by decide +kernel) ml_RX12_88 vok_X12_isHouse (by decide) rfl nar_X12_isHouse (by decide) rfl (Nat.le_of_ble_eq_true rfl) (ok_X12_isHouse h1) rfl ?_
  refine aw_if_eq (off := 17) (tgt := 22) (by decide +kernel) (by decide) (fun c1 => ?_) (fun c1 => ?_)
  · rw [if_pos c1] at h
    refine aw_forget (L' := [none, none, none]) (lsub_n (lsub_n (lsub_n (lsub_0)))) ?_
    exact ok_X12_isSo_22 σ2 _ h
  · rw [if_neg c1] at h
    refine aw_seq [(.aload_n 0, 1, ax0), (.iload_n 1, 1, ax0), (.iconst 0, 1, (axI 0))] (pc' := 11) (L' := [some (aR 12 0 0), some (aI v1), some (aI v2)]) (stk' := [aI 0, aI v1, aR 12 0 0]) (σ' := σ2) (g := []) (by decide +kernel) rfl rfl ?_
    obtain ⟨r6, σ5, h4, h⟩ := bnd_some h
    refine aw_cV (P' := pX12_get) (idx := 77) (d' := 1) (c := 12) (n := 0) (k := 0) [aI v1, aI 0] [] (ov := (some (aI r6))) (stk2 := [aI r6]) okp_X12_get (by decide +kernel) ml_RX12_77 vok_X12_get (by decide) rfl nar_X12_get (by decide) rfl (Nat.le_of_ble_eq_true rfl) (ok_X12_get h4) rfl ?_
    refine aw_seq [(.iload_n 2, 1, ax0)] (pc' := 15) (L' := [some (aR 12 0 0), some (aI v1), some (aI v2)]) (stk' := [aI v2, aI r6]) (σ' := σ5) (g := []) (by decide +kernel) rfl rfl ?_
    refine aw_icmp_ne (off := 7) (tgt := 22) (by decide +kernel) (by decide) (fun c1 => ?_) (fun c1 => ?_)
    · rw [if_neg c1] at h
      refine aw_forget (L' := [none, none, none]) (lsub_n (lsub_n (lsub_n (lsub_0)))) ?_
      exact ok_X12_isSo_22 σ5 _ h
    · rw [if_pos c1] at h
      refine aw_seq [(.iconst 1, 1, (axI 1))] (pc' := 19) (L' := [some (aR 12 0 0), some (aI v1), some (aI v2)]) (stk' := [aI 1]) (σ' := σ5) (g := []) (by decide +kernel) rfl rfl ?_
      refine aw_goto (off := 4) (tgt := 23) (by decide +kernel) (by decide) ?_
      refine aw_forget (L' := [none, none, none]) (lsub_n (lsub_n (lsub_n (lsub_0)))) ?_
      exact ok_X12_isSo_23 1 σ5 _ h
