/-! Whole.shelve (printed by wip/whole/gen_shelve.py) -/
def pX10_shelve : AP := (yX10_shelve, cX10_shelve, 2, (some FieldType.int), FRX10, KRX10, LRX10)
theorem okp_X10_shelve : POK pX10_shelve := ⟨(wsm_3 (i := 220) rfl rfl), by decide +kernel, FRX10_ok, KRX10_ok, LRX10_ok⟩
theorem nar_X10_shelve : nargs pX10_shelve 1 := by unfold nargs; decide +kernel
theorem vok_X10_shelve : VOK pX10_shelve := ⟨(wsm_3 (i := 218) rfl rfl), (wsm_3 (i := 219) rfl rfl), (wsm_1 (i := 2) rfl rfl), by decide, by decide⟩
def f_X10_shelve (w : Nat) (x : Nat) (σ : Sg) : Option (Int32 × Sg) :=
  if (σ.1 w 4) < 4 then (
    grd (inb (σ.1 w 4) 4 && true) <|
    ltσ (wQ σ (w + 12) (ix (σ.1 w 4)) (some x)) fun σ1 =>
    ltσ (wI σ1 w 4 ((σ1.1 w 4) + 1)) fun σ3 =>
    some (((σ3.1 w 4) - 1), σ3)
  ) else (
    some ((-1), σ)
  )
set_option maxRecDepth 100000 in
set_option maxHeartbeats 4000000 in
theorem ok_X10_shelve {κ : Kd} {w : Nat} {x : Nat} {σ : Sg} {q : (Int32 × Sg)} (h : f_X10_shelve w x σ = some q) : AMet κ pX10_shelve 1 [aR 10 0 w, aR 6 0 x] σ (some (aI q.1), q.2) := by
  unfold f_X10_shelve at h
  refine amet_of okp_X10_shelve [(false, aR 10 0 w), (false, aR 6 0 x)] (List.forall_mem_cons.mpr ⟨rfl, List.forall_mem_cons.mpr ⟨rfl, (fun _ hn => absurd hn List.not_mem_nil)⟩⟩) 0 rfl ?_
  show AW κ pX10_shelve 1 (some (aI q.1), q.2) 0 [some (aR 10 0 w), some (aR 6 0 x)] [] σ
  refine aw_seq [(.aload_n 0, 1, ax0), (.getfield 75, 3, (axF 10 4 (0, 0, 0, none))), (.iconst 4, 1, (axI 4))] (pc' := 5) (L' := [some (aR 10 0 w), some (aR 6 0 x)]) (stk' := [aI 4, aI (σ.1 w 4)]) (σ' := σ) (g := []) (by decide +kernel) rfl rfl ?_
  refine aw_icmp_lt (off := 5) (tgt := 10) (by decide +kernel) (by decide) (fun c1 => ?_) (fun c1 => ?_)
  · rw [if_pos c1] at h
    obtain ⟨hg, h⟩ := grd_some h
    obtain ⟨σ1, e2, h⟩ := ltσ_some h
    refine aw_seq [(.aload_n 0, 1, ax0), (.getfield 34, 3, (axF 10 3 (2, 12, 16, some 4))), (.aload_n 0, 1, ax0), (.getfield 75, 3, (axF 10 4 (0, 0, 0, none))), (.aload_n 1, 1, ax0), (.aastore, 1, ax0)] (pc' := 20) (L' := [some (aR 10 0 w), some (aR 6 0 x)]) (stk' := []) (σ' := σ1) (g := [inb (σ.1 w 4) 4]) (by decide +kernel) (by rw [e2]; rfl) hg ?_
    obtain ⟨σ3, e4, h⟩ := ltσ_some h
    refine aw_seq [(.aload_n 0, 1, ax0), (.dup, 1, ax0), (.getfield 75, 3, (axF 10 4 (0, 0, 0, none))), (.iconst 1, 1, (axI 1)), (.iadd, 1, ax0), (.putfield 75, 3, (axF 10 4 (0, 0, 0, none)))] (pc' := 30) (L' := [some (aR 10 0 w), some (aR 6 0 x)]) (stk' := []) (σ' := σ3) (g := []) (by decide +kernel) (by rw [e4]; rfl) rfl ?_
    refine aw_seq [(.aload_n 0, 1, ax0), (.getfield 75, 3, (axF 10 4 (0, 0, 0, none))), (.iconst 1, 1, (axI 1)), (.isub, 1, ax0)] (pc' := 36) (L' := [some (aR 10 0 w), some (aR 6 0 x)]) (stk' := [aI ((σ3.1 w 4) - 1)]) (σ' := σ3) (g := []) (by decide +kernel) rfl rfl ?_
    cases h
    exact aw_iret rfl (by decide +kernel)
  · rw [if_neg c1] at h
    refine aw_seq [(.iconst (-1), 1, (axI (-1)))] (pc' := 9) (L' := [some (aR 10 0 w), some (aR 6 0 x)]) (stk' := [aI (-1)]) (σ' := σ) (g := []) (by decide +kernel) rfl rfl ?_
    cases h
    exact aw_iret rfl (by decide +kernel)
