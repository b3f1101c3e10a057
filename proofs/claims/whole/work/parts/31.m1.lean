/-! printed by wip/whole/gen4.py from the class file: nameOf, rank, settle, openAt, openNow, isCompared, isAskAhead, waits, opened, beginOne, compareOf, betweenOf, partOf, behindOne -/
def f_X12_nameOf_207   (s0 : Int32) (σ : Sg) : Option (Int32 × Sg) :=
  some (s0, σ)
set_option maxRecDepth 100000 in
set_option maxHeartbeats 4000000 in
theorem ok_X12_nameOf_207 {κ : Kd}    : ∀ (s0 : Int32) (σ : Sg) (q : (Int32 × Sg)), f_X12_nameOf_207 s0 σ = some q → AW κ pX12_nameOf 5 (some (aI q.1), q.2) 207 [none] [aI s0] σ := by
  intro s0 σ q h
  unfold f_X12_nameOf_207 at h
  cases h
  exact aw_iret rfl (by decide +kernel)
def f_X12_nameOf  (σ : Sg) : Option (Int32 × Sg) :=
  if (σ.1 0 9) = 2 then (
    bnd (f_X12_w4 104 111 117 114 σ) fun r3 σ2 =>
    if (lg_cmp (σ.2.1 0 11) r3) = 0 then (
      some (0, σ2)
    ) else (
      bnd (f_X12_w4 98 101 108 108 σ2) fun r6 σ5 =>
      if (lg_cmp (σ2.2.1 0 11) r6) = 0 then (
        some (1, σ5)
      ) else (
        bnd (f_X12_w4 119 105 110 100 σ5) fun r9 σ8 =>
        if (lg_cmp (σ5.2.1 0 11) r9) = 0 then (
          some (2, σ8)
        ) else (
          bnd (f_X12_w3 119 104 111 σ8) fun r12 σ11 =>
          if (lg_cmp (σ8.2.1 0 11) r12) = 0 then (
            some (3, σ11)
          ) else (
            bnd (f_X12_w4 119 111 111 100 σ11) fun r15 σ14 =>
            if (lg_cmp (σ11.2.1 0 11) r15) = 0 then (
              some (4, σ14)
            ) else (
              bnd (f_X12_w4 102 105 114 101 σ14) fun r18 σ17 =>
              if (lg_cmp (σ14.2.1 0 11) r18) = 0 then (
                some (5, σ17)
              ) else (
                bnd (f_X12_w4 104 101 97 116 σ17) fun r21 σ20 =>
                if (lg_cmp (σ17.2.1 0 11) r21) = 0 then (
                  some (6, σ20)
                ) else (
                  bnd (f_X12_w4 110 101 97 114 σ20) fun r24 σ23 =>
                  if (lg_cmp (σ20.2.1 0 11) r24) = 0 then (
                    f_X12_nameOf_207 7 σ23
                  ) else (
                    bnd (f_X12_w5 112 117 114 115 101 σ23) fun r27 σ26 =>
                    if (lg_cmp (σ23.2.1 0 11) r27) = 0 then (
                      f_X12_nameOf_207 8 σ26
                    ) else (
                      f_X12_nameOf_207 (-1) σ26
                    )
                  )
                )
              )
            )
          )
        )
      )
    )
  ) else (
    some ((-1), σ)
  )
set_option maxRecDepth 100000 in
set_option maxHeartbeats 4000000 in
theorem ok_X12_nameOf {κ : Kd}  {σ : Sg} {q : (Int32 × Sg)} (h : f_X12_nameOf σ = some q) : AMet κ pX12_nameOf 5 [aR 12 0 0] σ (some (aI q.1), q.2) := by
  unfold f_X12_nameOf at h
  refine amet_of okp_X12_nameOf [(false, aR 12 0 0)] (List.forall_mem_cons.mpr ⟨rfl, (fun _ hn => absurd hn List.not_mem_nil)⟩) 0 rfl ?_
  show AW κ pX12_nameOf 5 (some (aI q.1), q.2) 0 [some (aR 12 0 0)] [] σ
  refine aw_seq [(.aload_n 0, 1, ax0), (.getfield 108, 3, (axF 12 9 (0, 0, 0, none))), (.iconst 2, 1, (axI 2))] (pc' := 5) (L' := [some (aR 12 0 0)]) (stk' := [aI 2, aI (σ.1 0 9)]) (σ' := σ) (g := []) (by decide +kernel) rfl rfl ?_
  refine aw_icmp_eq (off := 5) (tgt := 10) (by decide +kernel) (by decide) (fun c1 => ?_) (fun c1 => ?_)
  · rw [if_pos c1] at h
    refine aw_seq [(.aload_n 0, 1, ax0), (.getfield 121, 3, (axF 12 11 (1, 0, 0, none))), (.bipush 104, 2, (axI 104)), (.bipush 111, 2, (axI 111)), (.bipush 117, 2, (axI 117)), (.bipush 114, 2, (axI 114))] (pc' := 22) (L' := [some (aR 12 0 0)]) (stk' := [aI 114, aI 117, aI 111, aI 104, aL (σ.2.1 0 11)]) (σ' := σ) (g := []) (by decide +kernel) rfl rfl ?_
    obtain ⟨r3, σ2, h1, h⟩ := bnd_some h
    refine aw_cS (P' := pX12_w4) (idx := 138) (d' := 3) [aI 104, aI 111, aI 117, aI 114] [aL (σ.2.1 0 11)] (ov := (some (aL r3))) (stk2 := [aL r3, aL (σ.2.1 0 11)]) okp_X12_w4 (by decide +kernel) ml_RX12_138 tok_X12_w4 nar_X12_w4 (by decide) rfl (Nat.le_of_ble_eq_true rfl) (ok_X12_w4 h1) rfl ?_
    refine aw_seq [(.lcmp, 1, ax0)] (pc' := 26) (L' := [some (aR 12 0 0)]) (stk' := [aI (lg_cmp (σ.2.1 0 11) r3)]) (σ' := σ2) (g := []) (by decide +kernel) rfl rfl ?_
    refine aw_if_ne (off := 5) (tgt := 31) (by decide +kernel) (by decide) (fun c1 => ?_) (fun c1 => ?_)
    · rw [if_neg c1] at h
      refine aw_seq [(.aload_n 0, 1, ax0), (.getfield 121, 3, (axF 12 11 (1, 0, 0, none))), (.bipush 98, 2, (axI 98)), (.bipush 101, 2, (axI 101)), (.bipush 108, 2, (axI 108)), (.bipush 108, 2, (axI 108))] (pc' := 43) (L' := [some (aR 12 0 0)]) (stk' := [aI 108, aI 108, aI 101, aI 98, aL (σ2.2.1 0 11)]) (σ' := σ2) (g := []) (by decide +kernel) rfl rfl ?_
      obtain ⟨r6, σ5, h4, h⟩ := bnd_some h
      refine aw_cS (P' := pX12_w4) (idx := 138) (d' := 3) [aI 98, aI 101, aI 108, aI 108] [aL (σ2.2.1 0 11)] (ov := (some (aL r6))) (stk2 := [aL r6, aL (σ2.2.1 0 11)]) okp_X12_w4 (by decide +kernel) ml_RX12_138 tok_X12_w4 nar_X12_w4 (by decide) rfl (Nat.le_of_ble_eq_true rfl) (ok_X12_w4 h4) rfl ?_
      refine aw_seq [(.lcmp, 1, ax0)] (pc' := 47) (L' := [some (aR 12 0 0)]) (stk' := [aI (lg_cmp (σ2.2.1 0 11) r6)]) (σ' := σ5) (g := []) (by decide +kernel) rfl rfl ?_
      refine aw_if_ne (off := 5) (tgt := 52) (by decide +kernel) (by decide) (fun c1 => ?_) (fun c1 => ?_)
      · rw [if_neg c1] at h
        refine aw_seq [(.aload_n 0, 1, ax0), (.getfield 121, 3, (axF 12 11 (1, 0, 0, none))), (.bipush 119, 2, (axI 119)), (.bipush 105, 2, (axI 105)), (.bipush 110, 2, (axI 110)), (.bipush 100, 2, (axI 100))] (pc' := 64) (L' := [some (aR 12 0 0)]) (stk' := [aI 100, aI 110, aI 105, aI 119, aL (σ5.2.1 0 11)]) (σ' := σ5) (g := []) (by decide +kernel) rfl rfl ?_
        obtain ⟨r9, σ8, h7, h⟩ := bnd_some h
        refine aw_cS (P' := pX12_w4) (idx := 138) (d' := 3) [aI 119, aI 105, aI 110, aI 100] [aL (σ5.2.1 0 11)] (ov := (some (aL r9))) (stk2 := [aL r9, aL (σ5.2.1 0 11)]) okp_X12_w4 (by decide +kernel) ml_RX12_138 tok_X12_w4 nar_X12_w4 (by decide) rfl (Nat.le_of_ble_eq_true rfl) (ok_X12_w4 h7) rfl ?_
        refine aw_seq [(.lcmp, 1, ax0)] (pc' := 68) (L' := [some (aR 12 0 0)]) (stk' := [aI (lg_cmp (σ5.2.1 0 11) r9)]) (σ' := σ8) (g := []) (by decide +kernel) rfl rfl ?_
        refine aw_if_ne (off := 5) (tgt := 73) (by decide +kernel) (by decide) (fun c1 => ?_) (fun c1 => ?_)
        · rw [if_neg c1] at h
          refine aw_seq [(.aload_n 0, 1, ax0), (.getfield 121, 3, (axF 12 11 (1, 0, 0, none))), (.bipush 119, 2, (axI 119)), (.bipush 104, 2, (axI 104)), (.bipush 111, 2, (axI 111))] (pc' := 83) (L' := [some (aR 12 0 0)]) (stk' := [aI 111, aI 104, aI 119, aL (σ8.2.1 0 11)]) (σ' := σ8) (g := []) (by decide +kernel) rfl rfl ?_
          obtain ⟨r12, σ11, h10, h⟩ := bnd_some h
          refine aw_cS (P' := pX12_w3) (idx := 134) (d' := 2) [aI 119, aI 104, aI 111] [aL (σ8.2.1 0 11)] (ov := (some (aL r12))) (stk2 := [aL r12, aL (σ8.2.1 0 11)]) okp_X12_w3 (by decide +kernel) ml_RX12_134 tok_X12_w3 nar_X12_w3 (by decide) rfl (Nat.le_of_ble_eq_true rfl) (ok_X12_w3 h10) rfl ?_
          refine aw_seq [(.lcmp, 1, ax0)] (pc' := 87) (L' := [some (aR 12 0 0)]) (stk' := [aI (lg_cmp (σ8.2.1 0 11) r12)]) (σ' := σ11) (g := []) (by decide +kernel) rfl rfl ?_
          refine aw_if_ne (off := 5) (tgt := 92) (by decide +kernel) (by decide) (fun c1 => ?_) (fun c1 => ?_)
          · rw [if_neg c1] at h
            refine aw_seq [(.aload_n 0, 1, ax0), (.getfield 121, 3, (axF 12 11 (1, 0, 0, none))), (.bipush 119, 2, (axI 119)), (.bipush 111, 2, (axI 111)), (.bipush 111, 2, (axI 111)), (.bipush 100, 2, (axI 100))] (pc' := 104) (L' := [some (aR 12 0 0)]) (stk' := [aI 100, aI 111, aI 111, aI 119, aL (σ11.2.1 0 11)]) (σ' := σ11) (g := []) (by decide +kernel) rfl rfl ?_
            obtain ⟨r15, σ14, h13, h⟩ := bnd_some h
            refine aw_cS (P' := pX12_w4) (idx := 138) (d' := 3) [aI 119, aI 111, aI 111, aI 100] [aL (σ11.2.1 0 11)] (ov := (some (aL r15))) (stk2 := [aL r15, aL (σ11.2.1 0 11)]) okp_X12_w4 (by decide +kernel) ml_RX12_138 tok_X12_w4 nar_X12_w4 (by decide) rfl (Nat.le_of_ble_eq_true rfl) (ok_X12_w4 h13) rfl ?_
            refine aw_seq [(.lcmp, 1, ax0)] (pc' := 108) (L' := [some (aR 12 0 0)]) (stk' := [aI (lg_cmp (σ11.2.1 0 11) r15)]) (σ' := σ14) (g := []) (by decide +kernel) rfl rfl ?_
            refine aw_if_ne (off := 5) (tgt := 113) (by decide +kernel) (by decide) (fun c1 => ?_) (fun c1 => ?_)
            · rw [if_neg c1] at h
              refine aw_seq [(.aload_n 0, 1, ax0), (.getfield 121, 3, (axF 12 11 (1, 0, 0, none))), (.bipush 102, 2, (axI 102)), (.bipush 105, 2, (axI 105)), (.bipush 114, 2, (axI 114)), (.bipush 101, 2, (axI 101))] (pc' := 125) (L' := [some (aR 12 0 0)]) (stk' := [aI 101, aI 114, aI 105, aI 102, aL (σ14.2.1 0 11)]) (σ' := σ14) (g := []) (by decide +kernel) rfl rfl ?_
              obtain ⟨r18, σ17, h16, h⟩ := bnd_some h
              refine aw_cS (P' := pX12_w4) (idx := 138) (d' := 3) [aI 102, aI 105, aI 114, aI 101] [aL (σ14.2.1 0 11)] (ov := (some (aL r18))) (stk2 := [aL r18, aL (σ14.2.1 0 11)]) okp_X12_w4 (by decide +kernel) ml_RX12_138 tok_X12_w4 nar_X12_w4 (by decide) rfl (Nat.le_of_ble_eq_true rfl) (ok_X12_w4 h16) rfl ?_
              refine aw_seq [(.lcmp, 1, ax0)] (pc' := 129) (L' := [some (aR 12 0 0)]) (stk' := [aI (lg_cmp (σ14.2.1 0 11) r18)]) (σ' := σ17) (g := []) (by decide +kernel) rfl rfl ?_
              refine aw_if_ne (off := 5) (tgt := 134) (by decide +kernel) (by decide) (fun c1 => ?_) (fun c1 => ?_)
              · rw [if_neg c1] at h
                refine aw_seq [(.aload_n 0, 1, ax0), (.getfield 121, 3, (axF 12 11 (1, 0, 0, none))), (.bipush 104, 2, (axI 104)), (.bipush 101, 2, (axI 101)), (.bipush 97, 2, (axI 97)), (.bipush 116, 2, (axI 116))] (pc' := 146) (L' := [some (aR 12 0 0)]) (stk' := [aI 116, aI 97, aI 101, aI 104, aL (σ17.2.1 0 11)]) (σ' := σ17) (g := []) (by decide +kernel) rfl rfl ?_
                obtain ⟨r21, σ20, h19, h⟩ := bnd_some h
                refine aw_cS (P' := pX12_w4) (idx := 138) (d' := 3) [aI 104, aI 101, aI 97, aI 116] [aL (σ17.2.1 0 11)] (ov := (some (aL r21))) (stk2 := [aL r21, aL (σ17.2.1 0 11)]) okp_X12_w4 (by decide +kernel) ml_RX12_138 tok_X12_w4 nar_X12_w4 (by decide) rfl (Nat.le_of_ble_eq_true rfl) (ok_X12_w4 h19) rfl ?_
                refine aw_seq [(.lcmp, 1, ax0)] (pc' := 150) (L' := [some (aR 12 0 0)]) (stk' := [aI (lg_cmp (σ17.2.1 0 11) r21)]) (σ' := σ20) (g := []) (by decide +kernel) rfl rfl ?_
                refine aw_if_ne (off := 6) (tgt := 156) (by decide +kernel) (by decide) (fun c1 => ?_) (fun c1 => ?_)
                · rw [if_neg c1] at h
                  refine aw_seq [(.aload_n 0, 1, ax0), (.getfield 121, 3, (axF 12 11 (1, 0, 0, none))), (.bipush 110, 2, (axI 110)), (.bipush 101, 2, (axI 101)), (.bipush 97, 2, (axI 97)), (.bipush 114, 2, (axI 114))] (pc' := 168) (L' := [some (aR 12 0 0)]) (stk' := [aI 114, aI 97, aI 101, aI 110, aL (σ20.2.1 0 11)]) (σ' := σ20) (g := []) (by decide +kernel) rfl rfl ?_
                  obtain ⟨r24, σ23, h22, h⟩ := bnd_some h
                  refine aw_cS (P' := pX12_w4) (idx := 138) (d' := 3) [aI 110, aI 101, aI 97, aI 114] [aL (σ20.2.1 0 11)] (ov := (some (aL r24))) (stk2 := [aL r24, aL (σ20.2.1 0 11)]) okp_X12_w4 (by decide +kernel) ml_RX12_138 tok_X12_w4 nar_X12_w4 (by decide) rfl (Nat.le_of_ble_eq_true rfl) (ok_X12_w4 h22) rfl ?_
                  refine aw_seq [(.lcmp, 1, ax0)] (pc' := 172) (L' := [some (aR 12 0 0)]) (stk' := [aI (lg_cmp (σ20.2.1 0 11) r24)]) (σ' := σ23) (g := []) (by decide +kernel) rfl rfl ?_
                  refine aw_if_ne (off := 8) (tgt := 180) (by decide +kernel) (by decide) (fun c1 => ?_) (fun c1 => ?_)
                  · rw [if_neg c1] at h
                    refine aw_seq [(.aload_n 0, 1, ax0), (.getfield 121, 3, (axF 12 11 (1, 0, 0, none))), (.bipush 112, 2, (axI 112)), (.bipush 117, 2, (axI 117)), (.bipush 114, 2, (axI 114)), (.bipush 115, 2, (axI 115)), (.bipush 101, 2, (axI 101))] (pc' := 194) (L' := [some (aR 12 0 0)]) (stk' := [aI 101, aI 115, aI 114, aI 117, aI 112, aL (σ23.2.1 0 11)]) (σ' := σ23) (g := []) (by decide +kernel) rfl rfl ?_
                    obtain ⟨r27, σ26, h25, h⟩ := bnd_some h
                    refine aw_cS (P' := pX12_w5) (idx := 142) (d' := 4) [aI 112, aI 117, aI 114, aI 115, aI 101] [aL (σ23.2.1 0 11)] (ov := (some (aL r27))) (stk2 := [aL r27, aL (σ23.2.1 0 11)]) okp_X12_w5 (by decide +kernel) ml_RX12_142 tok_X12_w5 nar_X12_w5 (by decide) rfl (Nat.le_of_ble_eq_true rfl) (ok_X12_w5 h25) rfl ?_
                    refine aw_seq [(.lcmp, 1, ax0)] (pc' := 198) (L' := [some (aR 12 0 0)]) (stk' := [aI (lg_cmp (σ23.2.1 0 11) r27)]) (σ' := σ26) (g := []) (by decide +kernel) rfl rfl ?_
                    refine aw_if_ne (off := 8) (tgt := 206) (by decide +kernel) (by decide) (fun c1 => ?_) (fun c1 => ?_)
                    · rw [if_neg c1] at h
                      refine aw_seq [(.iconst (-1), 1, (axI (-1)))] (pc' := 207) (L' := [some (aR 12 0 0)]) (stk' := [aI (-1)]) (σ' := σ26) (g := []) (by decide +kernel) rfl rfl ?_
                      refine aw_forget (L' := [none]) (lsub_n (lsub_0)) ?_
                      exact ok_X12_nameOf_207 (-1) σ26 _ h
                    · rw [if_pos c1] at h
                      refine aw_seq [(.bipush 8, 2, (axI 8))] (pc' := 203) (L' := [some (aR 12 0 0)]) (stk' := [aI 8]) (σ' := σ26) (g := []) (by decide +kernel) rfl rfl ?_
                      refine aw_goto (off := 4) (tgt := 207) (by decide +kernel) (by decide) ?_
                      refine aw_forget (L' := [none]) (lsub_n (lsub_0)) ?_
                      exact ok_X12_nameOf_207 8 σ26 _ h
                  · rw [if_pos c1] at h
                    refine aw_seq [(.bipush 7, 2, (axI 7))] (pc' := 177) (L' := [some (aR 12 0 0)]) (stk' := [aI 7]) (σ' := σ23) (g := []) (by decide +kernel) rfl rfl ?_
                    refine aw_goto (off := 30) (tgt := 207) (by decide +kernel) (by decide) ?_
                    refine aw_forget (L' := [none]) (lsub_n (lsub_0)) ?_
                    exact ok_X12_nameOf_207 7 σ23 _ h
                · rw [if_pos c1] at h
                  refine aw_seq [(.bipush 6, 2, (axI 6))] (pc' := 155) (L' := [some (aR 12 0 0)]) (stk' := [aI 6]) (σ' := σ20) (g := []) (by decide +kernel) rfl rfl ?_
                  cases h
                  exact aw_iret rfl (by decide +kernel)
              · rw [if_pos c1] at h
                refine aw_seq [(.iconst 5, 1, (axI 5))] (pc' := 133) (L' := [some (aR 12 0 0)]) (stk' := [aI 5]) (σ' := σ17) (g := []) (by decide +kernel) rfl rfl ?_
                cases h
                exact aw_iret rfl (by decide +kernel)
            · rw [if_pos c1] at h
              refine aw_seq [(.iconst 4, 1, (axI 4))] (pc' := 112) (L' := [some (aR 12 0 0)]) (stk' := [aI 4]) (σ' := σ14) (g := []) (by decide +kernel) rfl rfl ?_
              cases h
              exact aw_iret rfl (by decide +kernel)
          · rw [if_pos c1] at h
            refine aw_seq [(.iconst 3, 1, (axI 3))] (pc' := 91) (L' := [some (aR 12 0 0)]) (stk' := [aI 3]) (σ' := σ11) (g := []) (by decide +kernel) rfl rfl ?_
            cases h
            exact aw_iret rfl (by decide +kernel)
        · rw [if_pos c1] at h
          refine aw_seq [(.iconst 2, 1, (axI 2))] (pc' := 72) (L' := [some (aR 12 0 0)]) (stk' := [aI 2]) (σ' := σ8) (g := []) (by decide +kernel) rfl rfl ?_
          cases h
          exact aw_iret rfl (by decide +kernel)
      · rw [if_pos c1] at h
        refine aw_seq [(.iconst 1, 1, (axI 1))] (pc' := 51) (L' := [some (aR 12 0 0)]) (stk' := [aI 1]) (σ' := σ5) (g := []) (by decide +kernel) rfl rfl ?_
        cases h
        exact aw_iret rfl (by decide +kernel)
    · rw [if_pos c1] at h
      refine aw_seq [(.iconst 0, 1, (axI 0))] (pc' := 30) (L' := [some (aR 12 0 0)]) (stk' := [aI 0]) (σ' := σ2) (g := []) (by decide +kernel) rfl rfl ?_
      cases h
      exact aw_iret rfl (by decide +kernel)
  · rw [if_neg c1] at h
    refine aw_seq [(.iconst (-1), 1, (axI (-1)))] (pc' := 9) (L' := [some (aR 12 0 0)]) (stk' := [aI (-1)]) (σ' := σ) (g := []) (by decide +kernel) rfl rfl ?_
    cases h
    exact aw_iret rfl (by decide +kernel)
def f_X12_rank_77   (s0 : Int32) (σ : Sg) : Option (Int32 × Sg) :=
  some (s0, σ)
set_option maxRecDepth 100000 in
set_option maxHeartbeats 4000000 in
theorem ok_X12_rank_77 {κ : Kd}    : ∀ (s0 : Int32) (σ : Sg) (q : (Int32 × Sg)), f_X12_rank_77 s0 σ = some q → AW κ pX12_rank 1 (some (aI q.1), q.2) 77 [none] [aI s0] σ := by
  intro s0 σ q h
  unfold f_X12_rank_77 at h
  cases h
  exact aw_iret rfl (by decide +kernel)
def f_X12_rank_60    (σ : Sg) : Option (Int32 × Sg) :=
  f_X12_rank_77 7 σ
set_option maxRecDepth 100000 in
set_option maxHeartbeats 4000000 in
theorem ok_X12_rank_60 {κ : Kd}    : ∀  (σ : Sg) (q : (Int32 × Sg)), f_X12_rank_60  σ = some q → AW κ pX12_rank 1 (some (aI q.1), q.2) 60 [none] [] σ := by
  intro  σ q h
  unfold f_X12_rank_60 at h
  refine aw_seq [(.bipush 7, 2, (axI 7))] (pc' := 62) (L' := [none]) (stk' := [aI 7]) (σ' := σ) (g := []) (by decide +kernel) rfl rfl ?_
  refine aw_goto (off := 15) (tgt := 77) (by decide +kernel) (by decide) ?_
  refine aw_forget (L' := [none]) (lsub_n (lsub_0)) ?_
  exact ok_X12_rank_77 7 σ _ h
def f_X12_rank (v0 : Int32) (σ : Sg) : Option (Int32 × Sg) :=
  if v0 < 40 then (
    if v0 = 22 then (
      f_X12_rank_77 1 σ
    ) else (
      if v0 = 21 then (
        f_X12_rank_77 2 σ
      ) else (
        if v0 = 20 then (
          f_X12_rank_77 3 σ
        ) else (
          if v0 < 10 then (
            if v0 = 4 then (
              f_X12_rank_60 σ
            ) else (
              if v0 = 2 then (
                f_X12_rank_60 σ
              ) else (
                if v0 < 7 then (
                  f_X12_rank_77 5 σ
                ) else (
                  f_X12_rank_77 6 σ
                )
              )
            )
          ) else (
            f_X12_rank_77 4 σ
          )
        )
      )
    )
  ) else (
    f_X12_rank_77 0 σ
  )
set_option maxRecDepth 100000 in
set_option maxHeartbeats 4000000 in
theorem ok_X12_rank {κ : Kd} {v0 : Int32} {σ : Sg} {q : (Int32 × Sg)} (h : f_X12_rank v0 σ = some q) : AMet κ pX12_rank 1 [aI v0] σ (some (aI q.1), q.2) := by
  unfold f_X12_rank at h
  refine amet_of okp_X12_rank [(false, aI v0)] (List.forall_mem_cons.mpr ⟨rfl, (fun _ hn => absurd hn List.not_mem_nil)⟩) 0 rfl ?_
  show AW κ pX12_rank 1 (some (aI q.1), q.2) 0 [some (aI v0)] [] σ
  refine aw_seq [(.iload_n 0, 1, ax0), (.bipush 40, 2, (axI 40))] (pc' := 3) (L' := [some (aI v0)]) (stk' := [aI 40, aI v0]) (σ' := σ) (g := []) (by decide +kernel) rfl rfl ?_
  refine aw_icmp_lt (off := 7) (tgt := 10) (by decide +kernel) (by decide) (fun c1 => ?_) (fun c1 => ?_)
  · rw [if_pos c1] at h
    refine aw_seq [(.iload_n 0, 1, ax0), (.bipush 22, 2, (axI 22))] (pc' := 13) (L' := [some (aI v0)]) (stk' := [aI 22, aI v0]) (σ' := σ) (g := []) (by decide +kernel) rfl rfl ?_
    refine aw_icmp_ne (off := 7) (tgt := 20) (by decide +kernel) (by decide) (fun c1 => ?_) (fun c1 => ?_)
    · rw [if_neg c1] at h
      refine aw_seq [(.iload_n 0, 1, ax0), (.bipush 21, 2, (axI 21))] (pc' := 23) (L' := [some (aI v0)]) (stk' := [aI 21, aI v0]) (σ' := σ) (g := []) (by decide +kernel) rfl rfl ?_
      refine aw_icmp_ne (off := 7) (tgt := 30) (by decide +kernel) (by decide) (fun c1 => ?_) (fun c1 => ?_)
      · rw [if_neg c1] at h
        refine aw_seq [(.iload_n 0, 1, ax0), (.bipush 20, 2, (axI 20))] (pc' := 33) (L' := [some (aI v0)]) (stk' := [aI 20, aI v0]) (σ' := σ) (g := []) (by decide +kernel) rfl rfl ?_
        refine aw_icmp_ne (off := 7) (tgt := 40) (by decide +kernel) (by decide) (fun c1 => ?_) (fun c1 => ?_)
        · rw [if_neg c1] at h
          refine aw_seq [(.iload_n 0, 1, ax0), (.bipush 10, 2, (axI 10))] (pc' := 43) (L' := [some (aI v0)]) (stk' := [aI 10, aI v0]) (σ' := σ) (g := []) (by decide +kernel) rfl rfl ?_
          refine aw_icmp_lt (off := 7) (tgt := 50) (by decide +kernel) (by decide) (fun c1 => ?_) (fun c1 => ?_)
          · rw [if_pos c1] at h
            refine aw_seq [(.iload_n 0, 1, ax0), (.iconst 4, 1, (axI 4))] (pc' := 52) (L' := [some (aI v0)]) (stk' := [aI 4, aI v0]) (σ' := σ) (g := []) (by decide +kernel) rfl rfl ?_
            refine aw_icmp_eq (off := 8) (tgt := 60) (by decide +kernel) (by decide) (fun c1 => ?_) (fun c1 => ?_)
            · rw [if_pos c1] at h
              refine aw_forget (L' := [none]) (lsub_n (lsub_0)) ?_
              exact ok_X12_rank_60 σ _ h
            · rw [if_neg c1] at h
              refine aw_seq [(.iload_n 0, 1, ax0), (.iconst 2, 1, (axI 2))] (pc' := 57) (L' := [some (aI v0)]) (stk' := [aI 2, aI v0]) (σ' := σ) (g := []) (by decide +kernel) rfl rfl ?_
              refine aw_icmp_ne (off := 8) (tgt := 65) (by decide +kernel) (by decide) (fun c1 => ?_) (fun c1 => ?_)
              · rw [if_neg c1] at h
                refine aw_seq [(.iload_n 0, 1, ax0), (.bipush 7, 2, (axI 7))] (pc' := 68) (L' := [some (aI v0)]) (stk' := [aI 7, aI v0]) (σ' := σ) (g := []) (by decide +kernel) rfl rfl ?_
                refine aw_icmp_lt (off := 8) (tgt := 76) (by decide +kernel) (by decide) (fun c1 => ?_) (fun c1 => ?_)
                · rw [if_pos c1] at h
                  refine aw_seq [(.iconst 5, 1, (axI 5))] (pc' := 77) (L' := [some (aI v0)]) (stk' := [aI 5]) (σ' := σ) (g := []) (by decide +kernel) rfl rfl ?_
                  refine aw_forget (L' := [none]) (lsub_n (lsub_0)) ?_
                  exact ok_X12_rank_77 5 σ _ h
                · rw [if_neg c1] at h
                  refine aw_seq [(.bipush 6, 2, (axI 6))] (pc' := 73) (L' := [some (aI v0)]) (stk' := [aI 6]) (σ' := σ) (g := []) (by decide +kernel) rfl rfl ?_
                  refine aw_goto (off := 4) (tgt := 77) (by decide +kernel) (by decide) ?_
                  refine aw_forget (L' := [none]) (lsub_n (lsub_0)) ?_
                  exact ok_X12_rank_77 6 σ _ h
              · rw [if_pos c1] at h
                refine aw_forget (L' := [none]) (lsub_n (lsub_0)) ?_
                exact ok_X12_rank_60 σ _ h
          · rw [if_neg c1] at h
            refine aw_seq [(.iconst 4, 1, (axI 4))] (pc' := 47) (L' := [some (aI v0)]) (stk' := [aI 4]) (σ' := σ) (g := []) (by decide +kernel) rfl rfl ?_
            refine aw_goto (off := 30) (tgt := 77) (by decide +kernel) (by decide) ?_
            refine aw_forget (L' := [none]) (lsub_n (lsub_0)) ?_
            exact ok_X12_rank_77 4 σ _ h
        · rw [if_pos c1] at h
          refine aw_seq [(.iconst 3, 1, (axI 3))] (pc' := 37) (L' := [some (aI v0)]) (stk' := [aI 3]) (σ' := σ) (g := []) (by decide +kernel) rfl rfl ?_
          refine aw_goto (off := 40) (tgt := 77) (by decide +kernel) (by decide) ?_
          refine aw_forget (L' := [none]) (lsub_n (lsub_0)) ?_
          exact ok_X12_rank_77 3 σ _ h
      · rw [if_pos c1] at h
        refine aw_seq [(.iconst 2, 1, (axI 2))] (pc' := 27) (L' := [some (aI v0)]) (stk' := [aI 2]) (σ' := σ) (g := []) (by decide +kernel) rfl rfl ?_
        refine aw_goto (off := 50) (tgt := 77) (by decide +kernel) (by decide) ?_
        refine aw_forget (L' := [none]) (lsub_n (lsub_0)) ?_
        exact ok_X12_rank_77 2 σ _ h
    · rw [if_pos c1] at h
      refine aw_seq [(.iconst 1, 1, (axI 1))] (pc' := 17) (L' := [some (aI v0)]) (stk' := [aI 1]) (σ' := σ) (g := []) (by decide +kernel) rfl rfl ?_
      refine aw_goto (off := 60) (tgt := 77) (by decide +kernel) (by decide) ?_
      refine aw_forget (L' := [none]) (lsub_n (lsub_0)) ?_
      exact ok_X12_rank_77 1 σ _ h
  · rw [if_neg c1] at h
    refine aw_seq [(.iconst 0, 1, (axI 0))] (pc' := 7) (L' := [some (aI v0)]) (stk' := [aI 0]) (σ' := σ) (g := []) (by decide +kernel) rfl rfl ?_
    refine aw_goto (off := 70) (tgt := 77) (by decide +kernel) (by decide) ?_
    refine aw_forget (L' := [none]) (lsub_n (lsub_0)) ?_
    exact ok_X12_rank_77 0 σ _ h
def f_X12_settle_80  (rec_0 : Int32 → Sg → Option Sg) (v1 : Int32) (σ : Sg) : Option Sg :=
  ltσ (wI σ 0 17 ((σ.1 0 17) - 1)) fun σ1 =>
  rec_0 v1 σ1
set_option maxRecDepth 100000 in
set_option maxHeartbeats 4000000 in
theorem ok_X12_settle_80 {κ : Kd}   {rec_0 : Int32 → Sg → Option Sg} (hrec_0 : ∀ (v1 : Int32) (σ : Sg) (q : Sg), rec_0 v1 σ = some q → AW κ pX12_settle 2 (none, q) 0 [some (aR 12 0 0), some (aI v1)] [] σ) : ∀ (v1 : Int32) (σ : Sg) (q : Sg), f_X12_settle_80 rec_0 v1 σ = some q → AW κ pX12_settle 2 (none, q) 80 [some (aR 12 0 0), some (aI v1)] [] σ := by
  intro v1 σ q h
  unfold f_X12_settle_80 at h
  obtain ⟨σ1, e2, h⟩ := ltσ_some h
  refine aw_seq [(.aload_n 0, 1, ax0), (.dup, 1, ax0), (.getfield 162, 3, (axF 12 17 (0, 0, 0, none))), (.iconst 1, 1, (axI 1)), (.isub, 1, ax0), (.putfield 162, 3, (axF 12 17 (0, 0, 0, none)))] (pc' := 90) (L' := [some (aR 12 0 0), some (aI v1)]) (stk' := []) (σ' := σ1) (g := []) (by decide +kernel) (by rw [e2]; rfl) rfl ?_
  refine aw_goto (off := (-90)) (tgt := 0) (by decide +kernel) (by decide) ?_
  refine aw_forget (L' := [some (aR 12 0 0), some (aI v1)]) (lsub_s (lsub_s (lsub_0))) ?_
  exact hrec_0 v1 σ1 _ h
def f_X12_settle_93    (σ : Sg) : Option Sg :=
  some σ
set_option maxRecDepth 100000 in
set_option maxHeartbeats 4000000 in
theorem ok_X12_settle_93 {κ : Kd}    : ∀  (σ : Sg) (q : Sg), f_X12_settle_93  σ = some q → AW κ pX12_settle 2 (none, q) 93 [none, none] [] σ := by
  intro  σ q h
  unfold f_X12_settle_93 at h
  cases h
  exact aw_vret rfl (by decide +kernel)
def f_X12_settle_0   : Nat → Int32 → Sg → Option Sg
  | 0, _, _ => none
  | fu + 1, v1, σ =>
    if (σ.1 0 16) ≤ 0 then (
      f_X12_settle_93 σ
    ) else (
      grd (inb ((σ.1 0 16) - 1) 160 && true) <|
      bnd (f_X12_rank (σ.1 5 (ix ((σ.1 0 16) - 1))) σ) fun r5 σ4 =>
      if r5 < v1 then (
        f_X12_settle_93 σ4
      ) else (
        ltσ (wI σ4 0 16 ((σ4.1 0 16) - 1)) fun σ6 =>
        grd (inb (σ6.1 0 16) 160 && true) <|
        bndV (f_X12_emit (σ6.1 5 (ix (σ6.1 0 16))) 0 σ6) fun σ9 =>
        grd (inb (σ9.1 0 16) 160 && true) <|
        bnd (f_X12_rank (σ9.1 5 (ix (σ9.1 0 16))) σ9) fun r12 σ11 =>
        if r12 = 7 then (
          f_X12_settle_80 (f_X12_settle_0 fu) v1 σ11
        ) else (
          grd (inb (σ11.1 0 16) 160 && true) <|
          if (σ11.1 5 (ix (σ11.1 0 16))) = 20 then (
            f_X12_settle_80 (f_X12_settle_0 fu) v1 σ11
          ) else (
            (f_X12_settle_0 fu) v1 σ11
          )
        )
      )
    )
set_option maxRecDepth 100000 in
set_option maxHeartbeats 4000000 in
theorem ok_X12_settle_0 {κ : Kd}    : ∀ (fu : Nat) (v1 : Int32) (σ : Sg) (q : Sg), f_X12_settle_0 fu v1 σ = some q → AW κ pX12_settle 2 (none, q) 0 [some (aR 12 0 0), some (aI v1)] [] σ := by
  intro fu
  induction fu with
  | zero =>
    intro v1 σ q h
    unfold f_X12_settle_0 at h
    cases h
  | succ fu ih =>
    intro v1 σ q h
    unfold f_X12_settle_0 at h
    refine aw_seq [(.aload_n 0, 1, ax0), (.getfield 152, 3, (axF 12 16 (0, 0, 0, none)))] (pc' := 4) (L' := [some (aR 12 0 0), some (aI v1)]) (stk' := [aI (σ.1 0 16)]) (σ' := σ) (g := []) (by decide +kernel) rfl rfl ?_
    refine aw_if_le (off := 89) (tgt := 93) (by decide +kernel) (by decide) (fun c1 => ?_) (fun c1 => ?_)
    · rw [if_pos c1] at h
      refine aw_forget (L' := [none, none]) (lsub_n (lsub_n (lsub_0))) ?_
      exact ok_X12_settle_93 σ _ h
    · rw [if_neg c1] at h
      obtain ⟨hg, h⟩ := grd_some h
      refine aw_seq [(.aload_n 0, 1, ax0), (.getfield 29, 3, (axF 12 15 (2, 5, 13, some 160))), (.aload_n 0, 1, ax0), (.getfield 152, 3, (axF 12 16 (0, 0, 0, none))), (.iconst 1, 1, (axI 1)), (.isub, 1, ax0), (.iaload, 1, ax0)] (pc' := 18) (L' := [some (aR 12 0 0), some (aI v1)]) (stk' := [aI (σ.1 5 (ix ((σ.1 0 16) - 1)))]) (σ' := σ) (g := [inb ((σ.1 0 16) - 1) 160]) (by decide +kernel) rfl hg ?_
      obtain ⟨r5, σ4, h3, h⟩ := bnd_some h
      refine aw_cS (P' := pX12_rank) (idx := 155) (d' := 1) [aI (σ.1 5 (ix ((σ.1 0 16) - 1)))] [] (ov := (some (aI r5))) (stk2 := [aI r5]) okp_X12_rank (by decide +kernel) ml_RX12_155 tok_X12_rank nar_X12_rank (by decide) rfl (Nat.le_of_ble_eq_true rfl) (ok_X12_rank h3) rfl ?_
      refine aw_seq [(.iload_n 1, 1, ax0)] (pc' := 22) (L' := [some (aR 12 0 0), some (aI v1)]) (stk' := [aI v1, aI r5]) (σ' := σ4) (g := []) (by decide +kernel) rfl rfl ?_
      refine aw_icmp_lt (off := 71) (tgt := 93) (by decide +kernel) (by decide) (fun c1 => ?_) (fun c1 => ?_)
      · rw [if_pos c1] at h
        refine aw_forget (L' := [none, none]) (lsub_n (lsub_n (lsub_0))) ?_
        exact ok_X12_settle_93 σ4 _ h
      · rw [if_neg c1] at h
        obtain ⟨σ6, e7, h⟩ := ltσ_some h
        refine aw_seq [(.aload_n 0, 1, ax0), (.dup, 1, ax0), (.getfield 152, 3, (axF 12 16 (0, 0, 0, none))), (.iconst 1, 1, (axI 1)), (.isub, 1, ax0), (.putfield 152, 3, (axF 12 16 (0, 0, 0, none)))] (pc' := 35) (L' := [some (aR 12 0 0), some (aI v1)]) (stk' := []) (σ' := σ6) (g := []) (by decide +kernel) (by rw [e7]; rfl) rfl ?_
        obtain ⟨hg, h⟩ := grd_some h
        refine aw_seq [(.aload_n 0, 1, ax0), (.aload_n 0, 1, ax0), (.getfield 29, 3, (axF 12 15 (2, 5, 13, some 160))), (.aload_n 0, 1, ax0), (.getfield 152, 3, (axF 12 16 (0, 0, 0, none))), (.iaload, 1, ax0), (.iconst 0, 1, (axI 0))] (pc' := 46) (L' := [some (aR 12 0 0), some (aI v1)]) (stk' := [aI 0, aI (σ6.1 5 (ix (σ6.1 0 16))), aR 12 0 0]) (σ' := σ6) (g := [inb (σ6.1 0 16) 160]) (by decide +kernel) rfl hg ?_
        obtain ⟨σ9, h8, h⟩ := bndV_some h
        refine aw_cV (P' := pX12_emit) (idx := 158) (d' := 1) (c := 12) (n := 0) (k := 0) [aI (σ6.1 5 (ix (σ6.1 0 16))), aI 0] [] (ov := none) (stk2 := []) okp_X12_emit (by decide +kernel) ml_RX12_158 vok_X12_emit (by decide) rfl nar_X12_emit (by decide) rfl (Nat.le_of_ble_eq_true rfl) (ok_X12_emit h8) rfl ?_
        obtain ⟨hg, h⟩ := grd_some h
        refine aw_seq [(.aload_n 0, 1, ax0), (.getfield 29, 3, (axF 12 15 (2, 5, 13, some 160))), (.aload_n 0, 1, ax0), (.getfield 152, 3, (axF 12 16 (0, 0, 0, none))), (.iaload, 1, ax0)] (pc' := 58) (L' := [some (aR 12 0 0), some (aI v1)]) (stk' := [aI (σ9.1 5 (ix (σ9.1 0 16)))]) (σ' := σ9) (g := [inb (σ9.1 0 16) 160]) (by decide +kernel) rfl hg ?_
        obtain ⟨r12, σ11, h10, h⟩ := bnd_some h
        refine aw_cS (P' := pX12_rank) (idx := 155) (d' := 1) [aI (σ9.1 5 (ix (σ9.1 0 16)))] [] (ov := (some (aI r12))) (stk2 := [aI r12]) okp_X12_rank (by decide +kernel) ml_RX12_155 tok_X12_rank nar_X12_rank (by decide) rfl (Nat.le_of_ble_eq_true rfl) (ok_X12_rank h10) rfl ?_
        refine aw_seq [(.bipush 7, 2, (axI 7))] (pc' := 63) (L' := [some (aR 12 0 0), some (aI v1)]) (stk' := [aI 7, aI r12]) (σ' := σ11) (g := []) (by decide +kernel) rfl rfl ?_
        refine aw_icmp_eq (off := 17) (tgt := 80) (by decide +kernel) (by decide) (fun c1 => ?_) (fun c1 => ?_)
        · rw [if_pos c1] at h
          refine aw_forget (L' := [some (aR 12 0 0), some (aI v1)]) (lsub_s (lsub_s (lsub_0))) ?_
          exact ok_X12_settle_80 ih v1 σ11 _ h
        · rw [if_neg c1] at h
          obtain ⟨hg, h⟩ := grd_some h
          refine aw_seq [(.aload_n 0, 1, ax0), (.getfield 29, 3, (axF 12 15 (2, 5, 13, some 160))), (.aload_n 0, 1, ax0), (.getfield 152, 3, (axF 12 16 (0, 0, 0, none))), (.iaload, 1, ax0), (.bipush 20, 2, (axI 20))] (pc' := 77) (L' := [some (aR 12 0 0), some (aI v1)]) (stk' := [aI 20, aI (σ11.1 5 (ix (σ11.1 0 16)))]) (σ' := σ11) (g := [inb (σ11.1 0 16) 160]) (by decide +kernel) rfl hg ?_
          refine aw_icmp_ne (off := (-77)) (tgt := 0) (by decide +kernel) (by decide) (fun c1 => ?_) (fun c1 => ?_)
          · rw [if_neg c1] at h
            refine aw_forget (L' := [some (aR 12 0 0), some (aI v1)]) (lsub_s (lsub_s (lsub_0))) ?_
            exact ih v1 σ11 _ h
          · rw [if_pos c1] at h
            refine aw_forget (L' := [some (aR 12 0 0), some (aI v1)]) (lsub_s (lsub_s (lsub_0))) ?_
            exact ok_X12_settle_80 ih v1 σ11 _ h
def f_X12_settle (v1 : Int32) (σ : Sg) : Option Sg :=
  f_X12_settle_0 FU v1 σ
set_option maxRecDepth 100000 in
set_option maxHeartbeats 4000000 in
theorem ok_X12_settle {κ : Kd} {v1 : Int32} {σ : Sg} {q : Sg} (h : f_X12_settle v1 σ = some q) : AMet κ pX12_settle 2 [aR 12 0 0, aI v1] σ (none, q) := by
  unfold f_X12_settle at h
  refine amet_of okp_X12_settle [(false, aR 12 0 0), (false, aI v1)] (List.forall_mem_cons.mpr ⟨rfl, List.forall_mem_cons.mpr ⟨rfl, (fun _ hn => absurd hn List.not_mem_nil)⟩⟩) 0 rfl ?_
  show AW κ pX12_settle 2 (none, q) 0 [some (aR 12 0 0), some (aI v1)] [] σ
  refine aw_forget (L' := [some (aR 12 0 0), some (aI v1)]) (lsub_s (lsub_s (lsub_0))) ?_
  exact ok_X12_settle_0 FU v1 σ _ h
def f_X12_openAt_28   (v1 : Int32) (σ : Sg) : Option (Int32 × Sg) :=
  some (v1, σ)
set_option maxRecDepth 100000 in
set_option maxHeartbeats 4000000 in
theorem ok_X12_openAt_28 {κ : Kd}    : ∀ (v1 : Int32) (σ : Sg) (q : (Int32 × Sg)), f_X12_openAt_28 v1 σ = some q → AW κ pX12_openAt 1 (some (aI q.1), q.2) 28 [none, some (aI v1)] [] σ := by
  intro v1 σ q h
  unfold f_X12_openAt_28 at h
  refine aw_seq [(.iload_n 1, 1, ax0)] (pc' := 29) (L' := [none, some (aI v1)]) (stk' := [aI v1]) (σ' := σ) (g := []) (by decide +kernel) rfl rfl ?_
  cases h
  exact aw_iret rfl (by decide +kernel)
def f_X12_openAt_7   : Nat → Int32 → Sg → Option (Int32 × Sg)
  | 0, _, _ => none
  | fu + 1, v1, σ =>
    if v1 < 0 then (
      f_X12_openAt_28 v1 σ
    ) else (
      grd (inb v1 160 && true) <|
      if 40 ≤ (σ.1 5 (ix v1)) then (
        f_X12_openAt_28 v1 σ
      ) else (
        (f_X12_openAt_7 fu) (v1 + (-1)) σ
      )
    )
set_option maxRecDepth 100000 in
set_option maxHeartbeats 4000000 in
theorem ok_X12_openAt_7 {κ : Kd}    : ∀ (fu : Nat) (v1 : Int32) (σ : Sg) (q : (Int32 × Sg)), f_X12_openAt_7 fu v1 σ = some q → AW κ pX12_openAt 1 (some (aI q.1), q.2) 7 [some (aR 12 0 0), some (aI v1)] [] σ := by
  intro fu
  induction fu with
  | zero =>
    intro v1 σ q h
    unfold f_X12_openAt_7 at h
    cases h
  | succ fu ih =>
    intro v1 σ q h
    unfold f_X12_openAt_7 at h
    refine aw_seq [(.iload_n 1, 1, ax0)] (pc' := 8) (L' := [some (aR 12 0 0), some (aI v1)]) (stk' := [aI v1]) (σ' := σ) (g := []) (by decide +kernel) rfl rfl ?_
    refine aw_if_lt (off := 20) (tgt := 28) (by decide +kernel) (by decide) (fun c1 => ?_) (fun c1 => ?_)
    · rw [if_pos c1] at h
      refine aw_forget (L' := [none, some (aI v1)]) (lsub_n (lsub_s (lsub_0))) ?_
      exact ok_X12_openAt_28 v1 σ _ h
    · rw [if_neg c1] at h
      obtain ⟨hg, h⟩ := grd_some h
      refine aw_seq [(.aload_n 0, 1, ax0), (.getfield 29, 3, (axF 12 15 (2, 5, 13, some 160))), (.iload_n 1, 1, ax0), (.iaload, 1, ax0), (.bipush 40, 2, (axI 40))] (pc' := 19) (L' := [some (aR 12 0 0), some (aI v1)]) (stk' := [aI 40, aI (σ.1 5 (ix v1))]) (σ' := σ) (g := [inb v1 160]) (by decide +kernel) rfl hg ?_
      refine aw_icmp_ge (off := 9) (tgt := 28) (by decide +kernel) (by decide) (fun c1 => ?_) (fun c1 => ?_)
      · rw [if_pos c1] at h
        refine aw_forget (L' := [none, some (aI v1)]) (lsub_n (lsub_s (lsub_0))) ?_
        exact ok_X12_openAt_28 v1 σ _ h
      · rw [if_neg c1] at h
        refine aw_seq [(.iinc 1 (-1), 3, (axI (-1)))] (pc' := 25) (L' := [some (aR 12 0 0), some (aI (v1 + (-1)))]) (stk' := []) (σ' := σ) (g := []) (by decide +kernel) rfl rfl ?_
        refine aw_goto (off := (-18)) (tgt := 7) (by decide +kernel) (by decide) ?_
        refine aw_forget (L' := [some (aR 12 0 0), some (aI (v1 + (-1)))]) (lsub_s (lsub_s (lsub_0))) ?_
        exact ih (v1 + (-1)) σ _ h
def f_X12_openAt  (σ : Sg) : Option (Int32 × Sg) :=
  f_X12_openAt_7 FU ((σ.1 0 16) - 1) σ
set_option maxRecDepth 100000 in
set_option maxHeartbeats 4000000 in
theorem ok_X12_openAt {κ : Kd}  {σ : Sg} {q : (Int32 × Sg)} (h : f_X12_openAt σ = some q) : AMet κ pX12_openAt 1 [aR 12 0 0] σ (some (aI q.1), q.2) := by
  unfold f_X12_openAt at h
  refine amet_of okp_X12_openAt [(false, aR 12 0 0)] (List.forall_mem_cons.mpr ⟨rfl, (fun _ hn => absurd hn List.not_mem_nil)⟩) 1 rfl ?_
  show AW κ pX12_openAt 1 (some (aI q.1), q.2) 0 [some (aR 12 0 0), none] [] σ
  refine aw_seq [(.aload_n 0, 1, ax0), (.getfield 152, 3, (axF 12 16 (0, 0, 0, none))), (.iconst 1, 1, (axI 1)), (.isub, 1, ax0), (.istore_n 1, 1, ax0)] (pc' := 7) (L' := [some (aR 12 0 0), some (aI ((σ.1 0 16) - 1))]) (stk' := []) (σ' := σ) (g := []) (by decide +kernel) rfl rfl ?_
  refine aw_forget (L' := [some (aR 12 0 0), some (aI ((σ.1 0 16) - 1))]) (lsub_s (lsub_s (lsub_0))) ?_
  exact ok_X12_openAt_7 FU ((σ.1 0 16) - 1) σ _ h
def f_X12_openNow_20   (s0 : Int32) (σ : Sg) : Option (Int32 × Sg) :=
  some (s0, σ)
set_option maxRecDepth 100000 in
set_option maxHeartbeats 4000000 in
theorem ok_X12_openNow_20 {κ : Kd}    : ∀ (s0 : Int32) (σ : Sg) (q : (Int32 × Sg)), f_X12_openNow_20 s0 σ = some q → AW κ pX12_openNow 2 (some (aI q.1), q.2) 20 [none] [aI s0] σ := by
  intro s0 σ q h
  unfold f_X12_openNow_20 at h
  cases h
  exact aw_iret rfl (by decide +kernel)
def f_X12_openNow  (σ : Sg) : Option (Int32 × Sg) :=
  bnd (f_X12_openAt σ) fun r3 σ2 =>
  if 0 ≤ r3 then (
    bnd (f_X12_openAt σ2) fun r6 σ5 =>
    grd (inb r6 160 && true) <|
    f_X12_openNow_20 (σ5.1 5 (ix r6)) σ5
  ) else (
    f_X12_openNow_20 (-1) σ2
  )
set_option maxRecDepth 100000 in
set_option maxHeartbeats 4000000 in
theorem ok_X12_openNow {κ : Kd}  {σ : Sg} {q : (Int32 × Sg)} (h : f_X12_openNow σ = some q) : AMet κ pX12_openNow 2 [aR 12 0 0] σ (some (aI q.1), q.2) := by
  unfold f_X12_openNow at h
  refine amet_of okp_X12_openNow [(false, aR 12 0 0)] (List.forall_mem_cons.mpr ⟨rfl, (fun _ hn => absurd hn List.not_mem_nil)⟩) 0 rfl ?_
  show AW κ pX12_openNow 2 (some (aI q.1), q.2) 0 [some (aR 12 0 0)] [] σ
  refine aw_seq [(.aload_n 0, 1, ax0)] (pc' := 1) (L' := [some (aR 12 0 0)]) (stk' := [aR 12 0 0]) (σ' := σ) (g := []) (by decide +kernel) rfl rfl ?_
  obtain ⟨r3, σ2, h1, h⟩ := bnd_some h
  refine aw_cV (P' := pX12_openAt) (idx := 165) (d' := 1) (c := 12) (n := 0) (k := 0) [] [] (ov := (some (aI r3))) (stk2 := [aI r3]) okp_X12_openAt (by decide +kernel) ml_RX12_165 vok_X12_openAt (by decide) rfl nar_X12_openAt (by decide) rfl (Nat.le_of_ble_eq_true rfl) (ok_X12_openAt h1) rfl ?_
  refine aw_if_ge (off := 7) (tgt := 11) (by decide +kernel) (by decide) (fun c1 => ?_) (fun c1 => ?_)
  · rw [if_pos c1] at h
    refine aw_seq [(.aload_n 0, 1, ax0), (.getfield 29, 3, (axF 12 15 (2, 5, 13, some 160))), (.aload_n 0, 1, ax0)] (pc' := 16) (L' := [some (aR 12 0 0)]) (stk' := [aR 12 0 0, aR 13 160 5]) (σ' := σ2) (g := []) (by decide +kernel) rfl rfl ?_
    obtain ⟨r6, σ5, h4, h⟩ := bnd_some h
    refine aw_cV (P' := pX12_openAt) (idx := 165) (d' := 1) (c := 12) (n := 0) (k := 0) [] [aR 13 160 5] (ov := (some (aI r6))) (stk2 := [aI r6, aR 13 160 5]) okp_X12_openAt (by decide +kernel) ml_RX12_165 vok_X12_openAt (by decide) rfl nar_X12_openAt (by decide) rfl (Nat.le_of_ble_eq_true rfl) (ok_X12_openAt h4) rfl ?_
    obtain ⟨hg, h⟩ := grd_some h
    refine aw_seq [(.iaload, 1, ax0)] (pc' := 20) (L' := [some (aR 12 0 0)]) (stk' := [aI (σ5.1 5 (ix r6))]) (σ' := σ5) (g := [inb r6 160]) (by decide +kernel) rfl hg ?_
    refine aw_forget (L' := [none]) (lsub_n (lsub_0)) ?_
    exact ok_X12_openNow_20 (σ5.1 5 (ix r6)) σ5 _ h
  · rw [if_neg c1] at h
    refine aw_seq [(.iconst (-1), 1, (axI (-1)))] (pc' := 8) (L' := [some (aR 12 0 0)]) (stk' := [aI (-1)]) (σ' := σ2) (g := []) (by decide +kernel) rfl rfl ?_
    refine aw_goto (off := 12) (tgt := 20) (by decide +kernel) (by decide) ?_
    refine aw_forget (L' := [none]) (lsub_n (lsub_0)) ?_
    exact ok_X12_openNow_20 (-1) σ2 _ h
def f_X12_isCompared_52   (s0 : Int32) (σ : Sg) : Option (Int32 × Sg) :=
  grd (bz s0) <| some (s0, σ)
set_option maxRecDepth 100000 in
set_option maxHeartbeats 4000000 in
theorem ok_X12_isCompared_52 {κ : Kd}    : ∀ (s0 : Int32) (σ : Sg) (q : (Int32 × Sg)), f_X12_isCompared_52 s0 σ = some q → AW κ pX12_isCompared 2 (some (aI q.1), q.2) 52 [none, none] [aI s0] σ := by
  intro s0 σ q h
  unfold f_X12_isCompared_52 at h
  obtain ⟨hg, h⟩ := grd_some h
  cases h
  exact aw_zret rfl hg (by decide +kernel)
def f_X12_isCompared_51    (σ : Sg) : Option (Int32 × Sg) :=
  f_X12_isCompared_52 0 σ
set_option maxRecDepth 100000 in
set_option maxHeartbeats 4000000 in
theorem ok_X12_isCompared_51 {κ : Kd}    : ∀  (σ : Sg) (q : (Int32 × Sg)), f_X12_isCompared_51  σ = some q → AW κ pX12_isCompared 2 (some (aI q.1), q.2) 51 [none, none] [] σ := by
  intro  σ q h
  unfold f_X12_isCompared_51 at h
  refine aw_seq [(.iconst 0, 1, (axI 0))] (pc' := 52) (L' := [none, none]) (stk' := [aI 0]) (σ' := σ) (g := []) (by decide +kernel) rfl rfl ?_
  refine aw_forget (L' := [none, none]) (lsub_n (lsub_n (lsub_0))) ?_
  exact ok_X12_isCompared_52 0 σ _ h
def f_X12_isCompared_30   (v1 : Int32) (σ : Sg) : Option (Int32 × Sg) :=
  if v1 < 0 then (
    f_X12_isCompared_51 σ
  ) else (
    grd (inb v1 160 && true) <|
    bnd (f_X12_rank (σ.1 5 (ix v1)) σ) fun r3 σ2 =>
    if r3 = 4 then (
      f_X12_isCompared_52 1 σ2
    ) else (
      f_X12_isCompared_51 σ2
    )
  )
set_option maxRecDepth 100000 in
set_option maxHeartbeats 4000000 in
theorem ok_X12_isCompared_30 {κ : Kd}    : ∀ (v1 : Int32) (σ : Sg) (q : (Int32 × Sg)), f_X12_isCompared_30 v1 σ = some q → AW κ pX12_isCompared 2 (some (aI q.1), q.2) 30 [some (aR 12 0 0), some (aI v1)] [] σ := by
  intro v1 σ q h
  unfold f_X12_isCompared_30 at h
  refine aw_seq [(.iload_n 1, 1, ax0)] (pc' := 31) (L' := [some (aR 12 0 0), some (aI v1)]) (stk' := [aI v1]) (σ' := σ) (g := []) (by decide +kernel) rfl rfl ?_
  refine aw_if_lt (off := 20) (tgt := 51) (by decide +kernel) (by decide) (fun c1 => ?_) (fun c1 => ?_)
  · rw [if_pos c1] at h
    refine aw_forget (L' := [none, none]) (lsub_n (lsub_n (lsub_0))) ?_
    exact ok_X12_isCompared_51 σ _ h
  · rw [if_neg c1] at h
    obtain ⟨hg, h⟩ := grd_some h
    refine aw_seq [(.aload_n 0, 1, ax0), (.getfield 29, 3, (axF 12 15 (2, 5, 13, some 160))), (.iload_n 1, 1, ax0), (.iaload, 1, ax0)] (pc' := 40) (L' := [some (aR 12 0 0), some (aI v1)]) (stk' := [aI (σ.1 5 (ix v1))]) (σ' := σ) (g := [inb v1 160]) (by decide +kernel) rfl hg ?_
    obtain ⟨r3, σ2, h1, h⟩ := bnd_some h
    refine aw_cS (P' := pX12_rank) (idx := 155) (d' := 1) [aI (σ.1 5 (ix v1))] [] (ov := (some (aI r3))) (stk2 := [aI r3]) okp_X12_rank (by decide +kernel) ml_RX12_155 tok_X12_rank nar_X12_rank (by decide) rfl (Nat.le_of_ble_eq_true rfl) (ok_X12_rank h1) rfl ?_
    refine aw_seq [(.iconst 4, 1, (axI 4))] (pc' := 44) (L' := [some (aR 12 0 0), some (aI v1)]) (stk' := [aI 4, aI r3]) (σ' := σ2) (g := []) (by decide +kernel) rfl rfl ?_
    refine aw_icmp_ne (off := 7) (tgt := 51) (by decide +kernel) (by decide) (fun c1 => ?_) (fun c1 => ?_)
    · rw [if_neg c1] at h
      refine aw_forget (L' := [none, none]) (lsub_n (lsub_n (lsub_0))) ?_
      exact ok_X12_isCompared_51 σ2 _ h
    · rw [if_pos c1] at h
      refine aw_seq [(.iconst 1, 1, (axI 1))] (pc' := 48) (L' := [some (aR 12 0 0), some (aI v1)]) (stk' := [aI 1]) (σ' := σ2) (g := []) (by decide +kernel) rfl rfl ?_
      refine aw_goto (off := 4) (tgt := 52) (by decide +kernel) (by decide) ?_
      refine aw_forget (L' := [none, none]) (lsub_n (lsub_n (lsub_0))) ?_
      exact ok_X12_isCompared_52 1 σ2 _ h
def f_X12_isCompared_7   : Nat → Int32 → Sg → Option (Int32 × Sg)
  | 0, _, _ => none
  | fu + 1, v1, σ =>
    if v1 < 0 then (
      f_X12_isCompared_30 v1 σ
    ) else (
      grd (inb v1 160 && true) <|
      bnd (f_X12_rank (σ.1 5 (ix v1)) σ) fun r6 σ5 =>
      if r6 ≤ 4 then (
        f_X12_isCompared_30 v1 σ5
      ) else (
        (f_X12_isCompared_7 fu) (v1 + (-1)) σ5
      )
    )
set_option maxRecDepth 100000 in
set_option maxHeartbeats 4000000 in
theorem ok_X12_isCompared_7 {κ : Kd}    : ∀ (fu : Nat) (v1 : Int32) (σ : Sg) (q : (Int32 × Sg)), f_X12_isCompared_7 fu v1 σ = some q → AW κ pX12_isCompared 2 (some (aI q.1), q.2) 7 [some (aR 12 0 0), some (aI v1)] [] σ := by
  intro fu
  induction fu with
  | zero =>
    intro v1 σ q h
    unfold f_X12_isCompared_7 at h
    cases h
  | succ fu ih =>
    intro v1 σ q h
    unfold f_X12_isCompared_7 at h
    refine aw_seq [(.iload_n 1, 1, ax0)] (pc' := 8) (L' := [some (aR 12 0 0), some (aI v1)]) (stk' := [aI v1]) (σ' := σ) (g := []) (by decide +kernel) rfl rfl ?_
    refine aw_if_lt (off := 22) (tgt := 30) (by decide +kernel) (by decide) (fun c1 => ?_) (fun c1 => ?_)
    · rw [if_pos c1] at h
      refine aw_forget (L' := [some (aR 12 0 0), some (aI v1)]) (lsub_s (lsub_s (lsub_0))) ?_
      exact ok_X12_isCompared_30 v1 σ _ h
    · rw [if_neg c1] at h
      obtain ⟨hg, h⟩ := grd_some h
      refine aw_seq [(.aload_n 0, 1, ax0), (.getfield 29, 3, (axF 12 15 (2, 5, 13, some 160))), (.iload_n 1, 1, ax0), (.iaload, 1, ax0)] (pc' := 17) (L' := [some (aR 12 0 0), some (aI v1)]) (stk' := [aI (σ.1 5 (ix v1))]) (σ' := σ) (g := [inb v1 160]) (by decide +kernel) rfl hg ?_
      obtain ⟨r6, σ5, h4, h⟩ := bnd_some h
      refine aw_cS (P' := pX12_rank) (idx := 155) (d' := 1) [aI (σ.1 5 (ix v1))] [] (ov := (some (aI r6))) (stk2 := [aI r6]) okp_X12_rank (by decide +kernel) ml_RX12_155 tok_X12_rank nar_X12_rank (by decide) rfl (Nat.le_of_ble_eq_true rfl) (ok_X12_rank h4) rfl ?_
      refine aw_seq [(.iconst 4, 1, (axI 4))] (pc' := 21) (L' := [some (aR 12 0 0), some (aI v1)]) (stk' := [aI 4, aI r6]) (σ' := σ5) (g := []) (by decide +kernel) rfl rfl ?_
      refine aw_icmp_le (off := 9) (tgt := 30) (by decide +kernel) (by decide) (fun c1 => ?_) (fun c1 => ?_)
      · rw [if_pos c1] at h
        refine aw_forget (L' := [some (aR 12 0 0), some (aI v1)]) (lsub_s (lsub_s (lsub_0))) ?_
        exact ok_X12_isCompared_30 v1 σ5 _ h
      · rw [if_neg c1] at h
        refine aw_seq [(.iinc 1 (-1), 3, (axI (-1)))] (pc' := 27) (L' := [some (aR 12 0 0), some (aI (v1 + (-1)))]) (stk' := []) (σ' := σ5) (g := []) (by decide +kernel) rfl rfl ?_
        refine aw_goto (off := (-20)) (tgt := 7) (by decide +kernel) (by decide) ?_
        refine aw_forget (L' := [some (aR 12 0 0), some (aI (v1 + (-1)))]) (lsub_s (lsub_s (lsub_0))) ?_
        exact ih (v1 + (-1)) σ5 _ h
def f_X12_isCompared  (σ : Sg) : Option (Int32 × Sg) :=
  f_X12_isCompared_7 FU ((σ.1 0 16) - 1) σ
set_option maxRecDepth 100000 in
set_option maxHeartbeats 4000000 in
theorem ok_X12_isCompared {κ : Kd}  {σ : Sg} {q : (Int32 × Sg)} (h : f_X12_isCompared σ = some q) : AMet κ pX12_isCompared 2 [aR 12 0 0] σ (some (aI q.1), q.2) := by
  unfold f_X12_isCompared at h
  refine amet_of okp_X12_isCompared [(false, aR 12 0 0)] (List.forall_mem_cons.mpr ⟨rfl, (fun _ hn => absurd hn List.not_mem_nil)⟩) 1 rfl ?_
  show AW κ pX12_isCompared 2 (some (aI q.1), q.2) 0 [some (aR 12 0 0), none] [] σ
  refine aw_seq [(.aload_n 0, 1, ax0), (.getfield 152, 3, (axF 12 16 (0, 0, 0, none))), (.iconst 1, 1, (axI 1)), (.isub, 1, ax0), (.istore_n 1, 1, ax0)] (pc' := 7) (L' := [some (aR 12 0 0), some (aI ((σ.1 0 16) - 1))]) (stk' := []) (σ' := σ) (g := []) (by decide +kernel) rfl rfl ?_
  refine aw_forget (L' := [some (aR 12 0 0), some (aI ((σ.1 0 16) - 1))]) (lsub_s (lsub_s (lsub_0))) ?_
  exact ok_X12_isCompared_7 FU ((σ.1 0 16) - 1) σ _ h
def f_X12_isAskAhead_52   (s0 : Int32) (σ : Sg) : Option (Int32 × Sg) :=
  grd (bz s0) <| some (s0, σ)
set_option maxRecDepth 100000 in
set_option maxHeartbeats 4000000 in
theorem ok_X12_isAskAhead_52 {κ : Kd}    : ∀ (s0 : Int32) (σ : Sg) (q : (Int32 × Sg)), f_X12_isAskAhead_52 s0 σ = some q → AW κ pX12_isAskAhead 3 (some (aI q.1), q.2) 52 [none] [aI s0] σ := by
  intro s0 σ q h
  unfold f_X12_isAskAhead_52 at h
  obtain ⟨hg, h⟩ := grd_some h
  cases h
  exact aw_zret rfl hg (by decide +kernel)
def f_X12_isAskAhead_47    (σ : Sg) : Option (Int32 × Sg) :=
  f_X12_isAskAhead_52 1 σ
set_option maxRecDepth 100000 in
set_option maxHeartbeats 4000000 in
theorem ok_X12_isAskAhead_47 {κ : Kd}    : ∀  (σ : Sg) (q : (Int32 × Sg)), f_X12_isAskAhead_47  σ = some q → AW κ pX12_isAskAhead 3 (some (aI q.1), q.2) 47 [none] [] σ := by
  intro  σ q h
  unfold f_X12_isAskAhead_47 at h
  refine aw_seq [(.iconst 1, 1, (axI 1))] (pc' := 48) (L' := [none]) (stk' := [aI 1]) (σ' := σ) (g := []) (by decide +kernel) rfl rfl ?_
  refine aw_goto (off := 4) (tgt := 52) (by decide +kernel) (by decide) ?_
  refine aw_forget (L' := [none]) (lsub_n (lsub_0)) ?_
  exact ok_X12_isAskAhead_52 1 σ _ h
def f_X12_isAskAhead_51    (σ : Sg) : Option (Int32 × Sg) :=
  f_X12_isAskAhead_52 0 σ
set_option maxRecDepth 100000 in
set_option maxHeartbeats 4000000 in
theorem ok_X12_isAskAhead_51 {κ : Kd}    : ∀  (σ : Sg) (q : (Int32 × Sg)), f_X12_isAskAhead_51  σ = some q → AW κ pX12_isAskAhead 3 (some (aI q.1), q.2) 51 [none] [] σ := by
  intro  σ q h
  unfold f_X12_isAskAhead_51 at h
  refine aw_seq [(.iconst 0, 1, (axI 0))] (pc' := 52) (L' := [none]) (stk' := [aI 0]) (σ' := σ) (g := []) (by decide +kernel) rfl rfl ?_
  refine aw_forget (L' := [none]) (lsub_n (lsub_0)) ?_
  exact ok_X12_isAskAhead_52 0 σ _ h
def f_X12_isAskAhead  (σ : Sg) : Option (Int32 × Sg) :=
  bnd (f_X12_openNow σ) fun r3 σ2 =>
  if r3 = 41 then (
    grd (inb ((σ2.1 0 16) - 1) 160 && true) <|
    if 40 ≤ (σ2.1 5 (ix ((σ2.1 0 16) - 1))) then (
      f_X12_isAskAhead_47 σ2
    ) else (
      grd (inb ((σ2.1 0 16) - 1) 160 && true) <|
      bnd (f_X12_rank (σ2.1 5 (ix ((σ2.1 0 16) - 1))) σ2) fun r6 σ5 =>
      bnd (f_X12_isIn r6 1 3 σ5) fun r9 σ8 =>
      if r9 = 0 then (
        f_X12_isAskAhead_51 σ8
      ) else (
        f_X12_isAskAhead_47 σ8
      )
    )
  ) else (
    f_X12_isAskAhead_51 σ2
  )
set_option maxRecDepth 100000 in
set_option maxHeartbeats 4000000 in
theorem ok_X12_isAskAhead {κ : Kd}  {σ : Sg} {q : (Int32 × Sg)} (h : f_X12_isAskAhead σ = some q) : AMet κ pX12_isAskAhead 3 [aR 12 0 0] σ (some (aI q.1), q.2) := by
  unfold f_X12_isAskAhead at h
  refine amet_of okp_X12_isAskAhead [(false, aR 12 0 0)] (List.forall_mem_cons.mpr ⟨rfl, (fun _ hn => absurd hn List.not_mem_nil)⟩) 0 rfl ?_
  show AW κ pX12_isAskAhead 3 (some (aI q.1), q.2) 0 [some (aR 12 0 0)] [] σ
  refine aw_seq [(.aload_n 0, 1, ax0)] (pc' := 1) (L' := [some (aR 12 0 0)]) (stk' := [aR 12 0 0]) (σ' := σ) (g := []) (by decide +kernel) rfl rfl ?_
  obtain ⟨r3, σ2, h1, h⟩ := bnd_some h
  refine aw_cV (P' := pX12_openNow) (idx := 169) (d' := 2) (c := 12) (n := 0) (k := 0) [] [] (ov := (some (aI r3))) (stk2 := [aI r3]) okp_X12_openNow (by decide +kernel) ml_RX12_169 vok_X12_openNow (by decide) rfl nar_X12_openNow (by decide) rfl (Nat.le_of_ble_eq_true rfl) (ok_X12_openNow h1) rfl ?_
  refine aw_seq [(.bipush 41, 2, (axI 41))] (pc' := 6) (L' := [some (aR 12 0 0)]) (stk' := [aI 41, aI r3]) (σ' := σ2) (g := []) (by decide +kernel) rfl rfl ?_
  refine aw_icmp_ne (off := 45) (tgt := 51) (by decide +kernel) (by decide) (fun c1 => ?_) (fun c1 => ?_)
  · rw [if_neg c1] at h
    refine aw_forget (L' := [none]) (lsub_n (lsub_0)) ?_
    exact ok_X12_isAskAhead_51 σ2 _ h
  · rw [if_pos c1] at h
    obtain ⟨hg, h⟩ := grd_some h
    refine aw_seq [(.aload_n 0, 1, ax0), (.getfield 29, 3, (axF 12 15 (2, 5, 13, some 160))), (.aload_n 0, 1, ax0), (.getfield 152, 3, (axF 12 16 (0, 0, 0, none))), (.iconst 1, 1, (axI 1)), (.isub, 1, ax0), (.iaload, 1, ax0), (.bipush 40, 2, (axI 40))] (pc' := 22) (L' := [some (aR 12 0 0)]) (stk' := [aI 40, aI (σ2.1 5 (ix ((σ2.1 0 16) - 1)))]) (σ' := σ2) (g := [inb ((σ2.1 0 16) - 1) 160]) (by decide +kernel) rfl hg ?_
    refine aw_icmp_ge (off := 25) (tgt := 47) (by decide +kernel) (by decide) (fun c1 => ?_) (fun c1 => ?_)
    · rw [if_pos c1] at h
      refine aw_forget (L' := [none]) (lsub_n (lsub_0)) ?_
      exact ok_X12_isAskAhead_47 σ2 _ h
    · rw [if_neg c1] at h
      obtain ⟨hg, h⟩ := grd_some h
      refine aw_seq [(.aload_n 0, 1, ax0), (.getfield 29, 3, (axF 12 15 (2, 5, 13, some 160))), (.aload_n 0, 1, ax0), (.getfield 152, 3, (axF 12 16 (0, 0, 0, none))), (.iconst 1, 1, (axI 1)), (.isub, 1, ax0), (.iaload, 1, ax0)] (pc' := 36) (L' := [some (aR 12 0 0)]) (stk' := [aI (σ2.1 5 (ix ((σ2.1 0 16) - 1)))]) (σ' := σ2) (g := [inb ((σ2.1 0 16) - 1) 160]) (by decide +kernel) rfl hg ?_
      obtain ⟨r6, σ5, h4, h⟩ := bnd_some h
      refine aw_cS (P' := pX12_rank) (idx := 155) (d' := 1) [aI (σ2.1 5 (ix ((σ2.1 0 16) - 1)))] [] (ov := (some (aI r6))) (stk2 := [aI r6]) okp_X12_rank (by decide +kernel) ml_RX12_155 tok_X12_rank nar_X12_rank (by decide) rfl (Nat.le_of_ble_eq_true rfl) (ok_X12_rank h4) rfl ?_
      refine aw_seq [(.iconst 1, 1, (axI 1)), (.iconst 3, 1, (axI 3))] (pc' := 41) (L' := [some (aR 12 0 0)]) (stk' := [aI 3, aI 1, aI r6]) (σ' := σ5) (g := []) (by decide +kernel) rfl rfl ?_
      obtain ⟨r9, σ8, h7, h⟩ := bnd_some h
      refine aw_cS (P' := pX12_isIn) (idx := 69) (d' := 1) [aI r6, aI 1, aI 3] [] (ov := (some (aI r9))) (stk2 := [aI r9]) okp_X12_isIn (by decide +kernel) ml_RX12_69 tok_X12_isIn nar_X12_isIn (by decide) rfl (Nat.le_of_ble_eq_true rfl) (ok_X12_isIn h7) rfl ?_
      refine aw_if_eq (off := 7) (tgt := 51) (by decide +kernel) (by decide) (fun c1 => ?_) (fun c1 => ?_)
      · rw [if_pos c1] at h
        refine aw_forget (L' := [none]) (lsub_n (lsub_0)) ?_
        exact ok_X12_isAskAhead_51 σ8 _ h
      · rw [if_neg c1] at h
        refine aw_forget (L' := [none]) (lsub_n (lsub_0)) ?_
        exact ok_X12_isAskAhead_47 σ8 _ h
def f_X12_waits (v1 : Int32) (σ : Sg) : Option (Int32 × Sg) :=
  grd (inb (σ.1 0 16) 160 && true) <|
  ltσ (wI σ 5 (ix (σ.1 0 16)) v1) fun σ1 =>
  ltσ (wI σ1 0 16 ((σ1.1 0 16) + 1)) fun σ3 =>
  bndV (f_X12_nextToken σ3) fun σ6 =>
  some (0, σ6)
set_option maxRecDepth 100000 in
set_option maxHeartbeats 4000000 in
theorem ok_X12_waits {κ : Kd} {v1 : Int32} {σ : Sg} {q : (Int32 × Sg)} (h : f_X12_waits v1 σ = some q) : AMet κ pX12_waits 3 [aR 12 0 0, aI v1] σ (some (aI q.1), q.2) := by
  unfold f_X12_waits at h
  refine amet_of okp_X12_waits [(false, aR 12 0 0), (false, aI v1)] (List.forall_mem_cons.mpr ⟨rfl, List.forall_mem_cons.mpr ⟨rfl, (fun _ hn => absurd hn List.not_mem_nil)⟩⟩) 0 rfl ?_
  show AW κ pX12_waits 3 (some (aI q.1), q.2) 0 [some (aR 12 0 0), some (aI v1)] [] σ
  obtain ⟨hg, h⟩ := grd_some h
  obtain ⟨σ1, e2, h⟩ := ltσ_some h
  refine aw_seq [(.aload_n 0, 1, ax0), (.getfield 29, 3, (axF 12 15 (2, 5, 13, some 160))), (.aload_n 0, 1, ax0), (.getfield 152, 3, (axF 12 16 (0, 0, 0, none))), (.iload_n 1, 1, ax0), (.iastore, 1, ax0)] (pc' := 10) (L' := [some (aR 12 0 0), some (aI v1)]) (stk' := []) (σ' := σ1) (g := [inb (σ.1 0 16) 160]) (by decide +kernel) (by rw [e2]; rfl) hg ?_
  obtain ⟨σ3, e4, h⟩ := ltσ_some h
  refine aw_seq [(.aload_n 0, 1, ax0), (.dup, 1, ax0), (.getfield 152, 3, (axF 12 16 (0, 0, 0, none))), (.iconst 1, 1, (axI 1)), (.iadd, 1, ax0), (.putfield 152, 3, (axF 12 16 (0, 0, 0, none)))] (pc' := 20) (L' := [some (aR 12 0 0), some (aI v1)]) (stk' := []) (σ' := σ3) (g := []) (by decide +kernel) (by rw [e4]; rfl) rfl ?_
  refine aw_seq [(.aload_n 0, 1, ax0)] (pc' := 21) (L' := [some (aR 12 0 0), some (aI v1)]) (stk' := [aR 12 0 0]) (σ' := σ3) (g := []) (by decide +kernel) rfl rfl ?_
  obtain ⟨σ6, h5, h⟩ := bndV_some h
  refine aw_cV (P' := pX12_nextToken) (idx := 175) (d' := 2) (c := 12) (n := 0) (k := 0) [] [] (ov := none) (stk2 := []) okp_X12_nextToken (by decide +kernel) ml_RX12_175 vok_X12_nextToken (by decide) rfl nar_X12_nextToken (by decide) rfl (Nat.le_of_ble_eq_true rfl) (ok_X12_nextToken h5) rfl ?_
  refine aw_seq [(.iconst 0, 1, (axI 0))] (pc' := 25) (L' := [some (aR 12 0 0), some (aI v1)]) (stk' := [aI 0]) (σ' := σ6) (g := []) (by decide +kernel) rfl rfl ?_
  cases h
  exact aw_iret rfl (by decide +kernel)
def f_X12_opened (v1 : Int32) (σ : Sg) : Option (Int32 × Sg) :=
  if (σ.1 0 17) = 8 then (
    some (3, σ)
  ) else (
    ltσ (wI σ 0 17 ((σ.1 0 17) + 1)) fun σ1 =>
    bnd (f_X12_waits v1 σ1) fun r5 σ4 =>
    some (r5, σ4)
  )
set_option maxRecDepth 100000 in
set_option maxHeartbeats 4000000 in
theorem ok_X12_opened {κ : Kd} {v1 : Int32} {σ : Sg} {q : (Int32 × Sg)} (h : f_X12_opened v1 σ = some q) : AMet κ pX12_opened 4 [aR 12 0 0, aI v1] σ (some (aI q.1), q.2) := by
  unfold f_X12_opened at h
  refine amet_of okp_X12_opened [(false, aR 12 0 0), (false, aI v1)] (List.forall_mem_cons.mpr ⟨rfl, List.forall_mem_cons.mpr ⟨rfl, (fun _ hn => absurd hn List.not_mem_nil)⟩⟩) 0 rfl ?_
  show AW κ pX12_opened 4 (some (aI q.1), q.2) 0 [some (aR 12 0 0), some (aI v1)] [] σ
  refine aw_seq [(.aload_n 0, 1, ax0), (.getfield 162, 3, (axF 12 17 (0, 0, 0, none))), (.bipush 8, 2, (axI 8))] (pc' := 6) (L' := [some (aR 12 0 0), some (aI v1)]) (stk' := [aI 8, aI (σ.1 0 17)]) (σ' := σ) (g := []) (by decide +kernel) rfl rfl ?_
  refine aw_icmp_ne (off := 5) (tgt := 11) (by decide +kernel) (by decide) (fun c1 => ?_) (fun c1 => ?_)
  · rw [if_neg c1] at h
    obtain ⟨σ1, e2, h⟩ := ltσ_some h
    refine aw_seq [(.aload_n 0, 1, ax0), (.dup, 1, ax0), (.getfield 162, 3, (axF 12 17 (0, 0, 0, none))), (.iconst 1, 1, (axI 1)), (.iadd, 1, ax0), (.putfield 162, 3, (axF 12 17 (0, 0, 0, none)))] (pc' := 21) (L' := [some (aR 12 0 0), some (aI v1)]) (stk' := []) (σ' := σ1) (g := []) (by decide +kernel) (by rw [e2]; rfl) rfl ?_
    refine aw_seq [(.aload_n 0, 1, ax0), (.iload_n 1, 1, ax0)] (pc' := 23) (L' := [some (aR 12 0 0), some (aI v1)]) (stk' := [aI v1, aR 12 0 0]) (σ' := σ1) (g := []) (by decide +kernel) rfl rfl ?_
    obtain ⟨r5, σ4, h3, h⟩ := bnd_some h
    refine aw_cV (P' := pX12_waits) (idx := 172) (d' := 3) (c := 12) (n := 0) (k := 0) [aI v1] [] (ov := (some (aI r5))) (stk2 := [aI r5]) okp_X12_waits (by decide +kernel) ml_RX12_172 vok_X12_waits (by decide) rfl nar_X12_waits (by decide) rfl (Nat.le_of_ble_eq_true rfl) (ok_X12_waits h3) rfl ?_
    cases h
    exact aw_iret rfl (by decide +kernel)
  · rw [if_pos c1] at h
    refine aw_seq [(.iconst 3, 1, (axI 3))] (pc' := 10) (L' := [some (aR 12 0 0), some (aI v1)]) (stk' := [aI 3]) (σ' := σ) (g := []) (by decide +kernel) rfl rfl ?_
    cases h
    exact aw_iret rfl (by decide +kernel)
def f_X12_beginOne_83   (s1 : Int32) (s2 : Int32) (σ : Sg) : Option (Int32 × Sg) :=
  bndV (f_X12_emit s1 s2 σ) fun σ2 =>
  bndV (f_X12_nextToken σ2) fun σ4 =>
  grd (bz 1 && true) <|
  ltσ (wI σ4 0 18 1) fun σ5 =>
  bndV (f_X12_settle 7 σ5) fun σ8 =>
  some (0, σ8)
set_option maxRecDepth 100000 in
set_option maxHeartbeats 4000000 in
theorem ok_X12_beginOne_83 {κ : Kd}    : ∀ (s1 : Int32) (s2 : Int32) (σ : Sg) (q : (Int32 × Sg)), f_X12_beginOne_83 s1 s2 σ = some q → AW κ pX12_beginOne 6 (some (aI q.1), q.2) 83 [some (aR 12 0 0), none] [aI s2, aI s1, aR 12 0 0] σ := by
  intro s1 s2 σ q h
  unfold f_X12_beginOne_83 at h
  obtain ⟨σ2, h1, h⟩ := bndV_some h
  refine aw_cV (P' := pX12_emit) (idx := 158) (d' := 1) (c := 12) (n := 0) (k := 0) [aI s1, aI s2] [] (ov := none) (stk2 := []) okp_X12_emit (by decide +kernel) ml_RX12_158 vok_X12_emit (by decide) rfl nar_X12_emit (by decide) rfl (Nat.le_of_ble_eq_true rfl) (ok_X12_emit h1) rfl ?_
  refine aw_seq [(.aload_n 0, 1, ax0)] (pc' := 87) (L' := [some (aR 12 0 0), none]) (stk' := [aR 12 0 0]) (σ' := σ2) (g := []) (by decide +kernel) rfl rfl ?_
  obtain ⟨σ4, h3, h⟩ := bndV_some h
  refine aw_cV (P' := pX12_nextToken) (idx := 175) (d' := 2) (c := 12) (n := 0) (k := 0) [] [] (ov := none) (stk2 := []) okp_X12_nextToken (by decide +kernel) ml_RX12_175 vok_X12_nextToken (by decide) rfl nar_X12_nextToken (by decide) rfl (Nat.le_of_ble_eq_true rfl) (ok_X12_nextToken h3) rfl ?_
  obtain ⟨hg, h⟩ := grd_some h
  obtain ⟨σ5, e6, h⟩ := ltσ_some h
  refine aw_seq [(.aload_n 0, 1, ax0), (.iconst 1, 1, (axI 1)), (.putfield 184, 3, (axF 12 18 (3, 0, 0, none)))] (pc' := 95) (L' := [some (aR 12 0 0), none]) (stk' := []) (σ' := σ5) (g := [bz 1]) (by decide +kernel) (by rw [e6]; rfl) hg ?_
  refine aw_seq [(.aload_n 0, 1, ax0), (.bipush 7, 2, (axI 7))] (pc' := 98) (L' := [some (aR 12 0 0), none]) (stk' := [aI 7, aR 12 0 0]) (σ' := σ5) (g := []) (by decide +kernel) rfl rfl ?_
  obtain ⟨σ8, h7, h⟩ := bndV_some h
  refine aw_cV (P' := pX12_settle) (idx := 187) (d' := 2) (c := 12) (n := 0) (k := 0) [aI 7] [] (ov := none) (stk2 := []) okp_X12_settle (by decide +kernel) ml_RX12_187 vok_X12_settle (by decide) rfl nar_X12_settle (by decide) rfl (Nat.le_of_ble_eq_true rfl) (ok_X12_settle h7) rfl ?_
  refine aw_seq [(.iconst 0, 1, (axI 0))] (pc' := 102) (L' := [some (aR 12 0 0), none]) (stk' := [aI 0]) (σ' := σ8) (g := []) (by decide +kernel) rfl rfl ?_
  cases h
  exact aw_iret rfl (by decide +kernel)
def f_X12_beginOne_67   (v1 : Int32) (s1 : Int32) (σ : Sg) : Option (Int32 × Sg) :=
  if (σ.1 0 9) = 1 then (
    f_X12_beginOne_83 s1 (σ.1 0 10) σ
  ) else (
    f_X12_beginOne_83 s1 v1 σ
  )
set_option maxRecDepth 100000 in
set_option maxHeartbeats 4000000 in
theorem ok_X12_beginOne_67 {κ : Kd}    : ∀ (v1 : Int32) (s1 : Int32) (σ : Sg) (q : (Int32 × Sg)), f_X12_beginOne_67 v1 s1 σ = some q → AW κ pX12_beginOne 6 (some (aI q.1), q.2) 67 [some (aR 12 0 0), some (aI v1)] [aI s1, aR 12 0 0] σ := by
  intro v1 s1 σ q h
  unfold f_X12_beginOne_67 at h
  refine aw_seq [(.aload_n 0, 1, ax0), (.getfield 108, 3, (axF 12 9 (0, 0, 0, none))), (.iconst 1, 1, (axI 1))] (pc' := 72) (L' := [some (aR 12 0 0), some (aI v1)]) (stk' := [aI 1, aI (σ.1 0 9), aI s1, aR 12 0 0]) (σ' := σ) (g := []) (by decide +kernel) rfl rfl ?_
  refine aw_icmp_ne (off := 10) (tgt := 82) (by decide +kernel) (by decide) (fun c1 => ?_) (fun c1 => ?_)
  · rw [if_neg c1] at h
    refine aw_seq [(.iload_n 1, 1, ax0)] (pc' := 83) (L' := [some (aR 12 0 0), some (aI v1)]) (stk' := [aI v1, aI s1, aR 12 0 0]) (σ' := σ) (g := []) (by decide +kernel) rfl rfl ?_
    refine aw_forget (L' := [some (aR 12 0 0), none]) (lsub_s (lsub_n (lsub_0))) ?_
    exact ok_X12_beginOne_83 s1 v1 σ _ h
  · rw [if_pos c1] at h
    refine aw_seq [(.aload_n 0, 1, ax0), (.getfield 114, 3, (axF 12 10 (0, 0, 0, none)))] (pc' := 79) (L' := [some (aR 12 0 0), some (aI v1)]) (stk' := [aI (σ.1 0 10), aI s1, aR 12 0 0]) (σ' := σ) (g := []) (by decide +kernel) rfl rfl ?_
    refine aw_goto (off := 4) (tgt := 83) (by decide +kernel) (by decide) ?_
    refine aw_forget (L' := [some (aR 12 0 0), none]) (lsub_s (lsub_n (lsub_0))) ?_
    exact ok_X12_beginOne_83 s1 (σ.1 0 10) σ _ h
def f_X12_beginOne_53   (v1 : Int32) (σ : Sg) : Option (Int32 × Sg) :=
  if (σ.1 0 9) = 1 then (
    f_X12_beginOne_67 v1 0 σ
  ) else (
    f_X12_beginOne_67 v1 1 σ
  )
set_option maxRecDepth 100000 in
set_option maxHeartbeats 4000000 in
theorem ok_X12_beginOne_53 {κ : Kd}    : ∀ (v1 : Int32) (σ : Sg) (q : (Int32 × Sg)), f_X12_beginOne_53 v1 σ = some q → AW κ pX12_beginOne 6 (some (aI q.1), q.2) 53 [some (aR 12 0 0), some (aI v1)] [] σ := by
  intro v1 σ q h
  unfold f_X12_beginOne_53 at h
  refine aw_seq [(.aload_n 0, 1, ax0), (.aload_n 0, 1, ax0), (.getfield 108, 3, (axF 12 9 (0, 0, 0, none))), (.iconst 1, 1, (axI 1))] (pc' := 59) (L' := [some (aR 12 0 0), some (aI v1)]) (stk' := [aI 1, aI (σ.1 0 9), aR 12 0 0]) (σ' := σ) (g := []) (by decide +kernel) rfl rfl ?_
  refine aw_icmp_ne (off := 7) (tgt := 66) (by decide +kernel) (by decide) (fun c1 => ?_) (fun c1 => ?_)
  · rw [if_neg c1] at h
    refine aw_seq [(.iconst 1, 1, (axI 1))] (pc' := 67) (L' := [some (aR 12 0 0), some (aI v1)]) (stk' := [aI 1, aR 12 0 0]) (σ' := σ) (g := []) (by decide +kernel) rfl rfl ?_
    refine aw_forget (L' := [some (aR 12 0 0), some (aI v1)]) (lsub_s (lsub_s (lsub_0))) ?_
    exact ok_X12_beginOne_67 v1 1 σ _ h
  · rw [if_pos c1] at h
    refine aw_seq [(.iconst 0, 1, (axI 0))] (pc' := 63) (L' := [some (aR 12 0 0), some (aI v1)]) (stk' := [aI 0, aR 12 0 0]) (σ' := σ) (g := []) (by decide +kernel) rfl rfl ?_
    refine aw_goto (off := 4) (tgt := 67) (by decide +kernel) (by decide) ?_
    refine aw_forget (L' := [some (aR 12 0 0), some (aI v1)]) (lsub_s (lsub_s (lsub_0))) ?_
    exact ok_X12_beginOne_67 v1 0 σ _ h
def f_X12_beginOne_266   (s0 : Int32) (σ : Sg) : Option (Int32 × Sg) :=
  some (s0, σ)
set_option maxRecDepth 100000 in
set_option maxHeartbeats 4000000 in
theorem ok_X12_beginOne_266 {κ : Kd}    : ∀ (s0 : Int32) (σ : Sg) (q : (Int32 × Sg)), f_X12_beginOne_266 s0 σ = some q → AW κ pX12_beginOne 6 (some (aI q.1), q.2) 266 [none, none] [aI s0] σ := by
  intro s0 σ q h
  unfold f_X12_beginOne_266 at h
  cases h
  exact aw_iret rfl (by decide +kernel)
def f_X12_beginOne_41   (v1 : Int32) (σ : Sg) : Option (Int32 × Sg) :=
  if (σ.1 0 9) = 1 then (
    f_X12_beginOne_53 v1 σ
  ) else (
    if v1 < 0 then (
      if (σ.1 0 9) = 40 then (
        bnd (f_X12_opened 40 σ) fun r62 σ61 =>
        some (r62, σ61)
      ) else (
        if (σ.1 0 9) = 45 then (
          bnd (f_X12_opened 4 σ) fun r59 σ58 =>
          some (r59, σ58)
        ) else (
          bnd (f_X12_w4 119 97 114 109 σ) fun r11 σ10 =>
          bnd (f_X12_isWord r11 σ10) fun r14 σ13 =>
          if r14 = 0 then (
            bnd (f_X12_w2 105 102 σ13) fun r17 σ16 =>
            bnd (f_X12_isWord r17 σ16) fun r20 σ19 =>
            if r20 = 0 then (
              bnd (f_X12_isAskAhead σ19) fun r23 σ22 =>
              if r23 = 0 then (
                some (1, σ22)
              ) else (
                bnd (f_X12_w3 110 111 116 σ22) fun r26 σ25 =>
                bnd (f_X12_isWord r26 σ25) fun r29 σ28 =>
                if r29 = 0 then (
                  bnd (f_X12_w3 111 100 100 σ28) fun r32 σ31 =>
                  bnd (f_X12_isWord r32 σ31) fun r35 σ34 =>
                  if r35 = 0 then (
                    bnd (f_X12_w4 101 118 101 110 σ34) fun r38 σ37 =>
                    bnd (f_X12_isWord r38 σ37) fun r41 σ40 =>
                    if r41 = 0 then (
                      f_X12_beginOne_266 1 σ40
                    ) else (
                      bnd (f_X12_waits 17 σ40) fun r44 σ43 =>
                      f_X12_beginOne_266 r44 σ43
                    )
                  ) else (
                    bnd (f_X12_waits 16 σ34) fun r47 σ46 =>
                    f_X12_beginOne_266 r47 σ46
                  )
                ) else (
                  bnd (f_X12_opened 20 σ28) fun r50 σ49 =>
                  f_X12_beginOne_266 r50 σ49
                )
              )
            ) else (
              bnd (f_X12_opened 41 σ19) fun r53 σ52 =>
              some (r53, σ52)
            )
          ) else (
            bnd (f_X12_opened 2 σ13) fun r56 σ55 =>
            some (r56, σ55)
          )
        )
      )
    ) else (
      f_X12_beginOne_53 v1 σ
    )
  )
set_option maxRecDepth 100000 in
set_option maxHeartbeats 4000000 in
theorem ok_X12_beginOne_41 {κ : Kd}    : ∀ (v1 : Int32) (σ : Sg) (q : (Int32 × Sg)), f_X12_beginOne_41 v1 σ = some q → AW κ pX12_beginOne 6 (some (aI q.1), q.2) 41 [some (aR 12 0 0), some (aI v1)] [] σ := by
  intro v1 σ q h
  unfold f_X12_beginOne_41 at h
  refine aw_seq [(.aload_n 0, 1, ax0), (.getfield 108, 3, (axF 12 9 (0, 0, 0, none))), (.iconst 1, 1, (axI 1))] (pc' := 46) (L' := [some (aR 12 0 0), some (aI v1)]) (stk' := [aI 1, aI (σ.1 0 9)]) (σ' := σ) (g := []) (by decide +kernel) rfl rfl ?_
  refine aw_icmp_eq (off := 7) (tgt := 53) (by decide +kernel) (by decide) (fun c1 => ?_) (fun c1 => ?_)
  · rw [if_pos c1] at h
    refine aw_forget (L' := [some (aR 12 0 0), some (aI v1)]) (lsub_s (lsub_s (lsub_0))) ?_
    exact ok_X12_beginOne_53 v1 σ _ h
  · rw [if_neg c1] at h
    refine aw_seq [(.iload_n 1, 1, ax0)] (pc' := 50) (L' := [some (aR 12 0 0), some (aI v1)]) (stk' := [aI v1]) (σ' := σ) (g := []) (by decide +kernel) rfl rfl ?_
    refine aw_if_lt (off := 53) (tgt := 103) (by decide +kernel) (by decide) (fun c1 => ?_) (fun c1 => ?_)
    · rw [if_pos c1] at h
      refine aw_seq [(.aload_n 0, 1, ax0), (.getfield 108, 3, (axF 12 9 (0, 0, 0, none))), (.bipush 40, 2, (axI 40))] (pc' := 109) (L' := [some (aR 12 0 0), some (aI v1)]) (stk' := [aI 40, aI (σ.1 0 9)]) (σ' := σ) (g := []) (by decide +kernel) rfl rfl ?_
      refine aw_icmp_ne (off := 10) (tgt := 119) (by decide +kernel) (by decide) (fun c1 => ?_) (fun c1 => ?_)
      · rw [if_neg c1] at h
        refine aw_seq [(.aload_n 0, 1, ax0), (.getfield 108, 3, (axF 12 9 (0, 0, 0, none))), (.bipush 45, 2, (axI 45))] (pc' := 125) (L' := [some (aR 12 0 0), some (aI v1)]) (stk' := [aI 45, aI (σ.1 0 9)]) (σ' := σ) (g := []) (by decide +kernel) rfl rfl ?_
        refine aw_icmp_ne (off := 9) (tgt := 134) (by decide +kernel) (by decide) (fun c1 => ?_) (fun c1 => ?_)
        · rw [if_neg c1] at h
          refine aw_seq [(.aload_n 0, 1, ax0), (.bipush 119, 2, (axI 119)), (.bipush 97, 2, (axI 97)), (.bipush 114, 2, (axI 114)), (.bipush 109, 2, (axI 109))] (pc' := 143) (L' := [some (aR 12 0 0), some (aI v1)]) (stk' := [aI 109, aI 114, aI 97, aI 119, aR 12 0 0]) (σ' := σ) (g := []) (by decide +kernel) rfl rfl ?_
          obtain ⟨r11, σ10, h9, h⟩ := bnd_some h
          refine aw_cS (P' := pX12_w4) (idx := 138) (d' := 3) [aI 119, aI 97, aI 114, aI 109] [aR 12 0 0] (ov := (some (aL r11))) (stk2 := [aL r11, aR 12 0 0]) okp_X12_w4 (by decide +kernel) ml_RX12_138 tok_X12_w4 nar_X12_w4 (by decide) rfl (Nat.le_of_ble_eq_true rfl) (ok_X12_w4 h9) rfl ?_
          obtain ⟨r14, σ13, h12, h⟩ := bnd_some h
          refine aw_cV (P' := pX12_isWord) (idx := 193) (d' := 1) (c := 12) (n := 0) (k := 0) [aL r11] [] (ov := (some (aI r14))) (stk2 := [aI r14]) okp_X12_isWord (by decide +kernel) ml_RX12_193 vok_X12_isWord (by decide) rfl nar_X12_isWord (by decide) rfl (Nat.le_of_ble_eq_true rfl) (ok_X12_isWord h12) rfl ?_
          refine aw_if_eq (off := 9) (tgt := 158) (by decide +kernel) (by decide) (fun c1 => ?_) (fun c1 => ?_)
          · rw [if_pos c1] at h
            refine aw_seq [(.aload_n 0, 1, ax0), (.bipush 105, 2, (axI 105)), (.bipush 102, 2, (axI 102))] (pc' := 163) (L' := [some (aR 12 0 0), some (aI v1)]) (stk' := [aI 102, aI 105, aR 12 0 0]) (σ' := σ13) (g := []) (by decide +kernel) rfl rfl ?_
            obtain ⟨r17, σ16, h15, h⟩ := bnd_some h
            refine aw_cS (P' := pX12_w2) (idx := 130) (d' := 1) [aI 105, aI 102] [aR 12 0 0] (ov := (some (aL r17))) (stk2 := [aL r17, aR 12 0 0]) okp_X12_w2 (by decide +kernel) ml_RX12_130 tok_X12_w2 nar_X12_w2 (by decide) rfl (Nat.le_of_ble_eq_true rfl) (ok_X12_w2 h15) rfl ?_
            obtain ⟨r20, σ19, h18, h⟩ := bnd_some h
            refine aw_cV (P' := pX12_isWord) (idx := 193) (d' := 1) (c := 12) (n := 0) (k := 0) [aL r17] [] (ov := (some (aI r20))) (stk2 := [aI r20]) okp_X12_isWord (by decide +kernel) ml_RX12_193 vok_X12_isWord (by decide) rfl nar_X12_isWord (by decide) rfl (Nat.le_of_ble_eq_true rfl) (ok_X12_isWord h18) rfl ?_
            refine aw_if_eq (off := 10) (tgt := 179) (by decide +kernel) (by decide) (fun c1 => ?_) (fun c1 => ?_)
            · rw [if_pos c1] at h
              refine aw_seq [(.aload_n 0, 1, ax0)] (pc' := 180) (L' := [some (aR 12 0 0), some (aI v1)]) (stk' := [aR 12 0 0]) (σ' := σ19) (g := []) (by decide +kernel) rfl rfl ?_
              obtain ⟨r23, σ22, h21, h⟩ := bnd_some h
              refine aw_cV (P' := pX12_isAskAhead) (idx := 197) (d' := 3) (c := 12) (n := 0) (k := 0) [] [] (ov := (some (aI r23))) (stk2 := [aI r23]) okp_X12_isAskAhead (by decide +kernel) ml_RX12_197 vok_X12_isAskAhead (by decide) rfl nar_X12_isAskAhead (by decide) rfl (Nat.le_of_ble_eq_true rfl) (ok_X12_isAskAhead h21) rfl ?_
              refine aw_if_ne (off := 5) (tgt := 188) (by decide +kernel) (by decide) (fun c1 => ?_) (fun c1 => ?_)
              · rw [if_neg c1] at h
                refine aw_seq [(.aload_n 0, 1, ax0), (.bipush 110, 2, (axI 110)), (.bipush 111, 2, (axI 111)), (.bipush 116, 2, (axI 116))] (pc' := 195) (L' := [some (aR 12 0 0), some (aI v1)]) (stk' := [aI 116, aI 111, aI 110, aR 12 0 0]) (σ' := σ22) (g := []) (by decide +kernel) rfl rfl ?_
                obtain ⟨r26, σ25, h24, h⟩ := bnd_some h
                refine aw_cS (P' := pX12_w3) (idx := 134) (d' := 2) [aI 110, aI 111, aI 116] [aR 12 0 0] (ov := (some (aL r26))) (stk2 := [aL r26, aR 12 0 0]) okp_X12_w3 (by decide +kernel) ml_RX12_134 tok_X12_w3 nar_X12_w3 (by decide) rfl (Nat.le_of_ble_eq_true rfl) (ok_X12_w3 h24) rfl ?_
                obtain ⟨r29, σ28, h27, h⟩ := bnd_some h
                refine aw_cV (P' := pX12_isWord) (idx := 193) (d' := 1) (c := 12) (n := 0) (k := 0) [aL r26] [] (ov := (some (aI r29))) (stk2 := [aI r29]) okp_X12_isWord (by decide +kernel) ml_RX12_193 vok_X12_isWord (by decide) rfl nar_X12_isWord (by decide) rfl (Nat.le_of_ble_eq_true rfl) (ok_X12_isWord h27) rfl ?_
                refine aw_if_eq (off := 12) (tgt := 213) (by decide +kernel) (by decide) (fun c1 => ?_) (fun c1 => ?_)
                · rw [if_pos c1] at h
                  refine aw_seq [(.aload_n 0, 1, ax0), (.bipush 111, 2, (axI 111)), (.bipush 100, 2, (axI 100)), (.bipush 100, 2, (axI 100))] (pc' := 220) (L' := [some (aR 12 0 0), some (aI v1)]) (stk' := [aI 100, aI 100, aI 111, aR 12 0 0]) (σ' := σ28) (g := []) (by decide +kernel) rfl rfl ?_
                  obtain ⟨r32, σ31, h30, h⟩ := bnd_some h
                  refine aw_cS (P' := pX12_w3) (idx := 134) (d' := 2) [aI 111, aI 100, aI 100] [aR 12 0 0] (ov := (some (aL r32))) (stk2 := [aL r32, aR 12 0 0]) okp_X12_w3 (by decide +kernel) ml_RX12_134 tok_X12_w3 nar_X12_w3 (by decide) rfl (Nat.le_of_ble_eq_true rfl) (ok_X12_w3 h30) rfl ?_
                  obtain ⟨r35, σ34, h33, h⟩ := bnd_some h
                  refine aw_cV (P' := pX12_isWord) (idx := 193) (d' := 1) (c := 12) (n := 0) (k := 0) [aL r32] [] (ov := (some (aI r35))) (stk2 := [aI r35]) okp_X12_isWord (by decide +kernel) ml_RX12_193 vok_X12_isWord (by decide) rfl nar_X12_isWord (by decide) rfl (Nat.le_of_ble_eq_true rfl) (ok_X12_isWord h33) rfl ?_
                  refine aw_if_eq (off := 12) (tgt := 238) (by decide +kernel) (by decide) (fun c1 => ?_) (fun c1 => ?_)
                  · rw [if_pos c1] at h
                    refine aw_seq [(.aload_n 0, 1, ax0), (.bipush 101, 2, (axI 101)), (.bipush 118, 2, (axI 118)), (.bipush 101, 2, (axI 101)), (.bipush 110, 2, (axI 110))] (pc' := 247) (L' := [some (aR 12 0 0), some (aI v1)]) (stk' := [aI 110, aI 101, aI 118, aI 101, aR 12 0 0]) (σ' := σ34) (g := []) (by decide +kernel) rfl rfl ?_
                    obtain ⟨r38, σ37, h36, h⟩ := bnd_some h
                    refine aw_cS (P' := pX12_w4) (idx := 138) (d' := 3) [aI 101, aI 118, aI 101, aI 110] [aR 12 0 0] (ov := (some (aL r38))) (stk2 := [aL r38, aR 12 0 0]) okp_X12_w4 (by decide +kernel) ml_RX12_138 tok_X12_w4 nar_X12_w4 (by decide) rfl (Nat.le_of_ble_eq_true rfl) (ok_X12_w4 h36) rfl ?_
                    obtain ⟨r41, σ40, h39, h⟩ := bnd_some h
                    refine aw_cV (P' := pX12_isWord) (idx := 193) (d' := 1) (c := 12) (n := 0) (k := 0) [aL r38] [] (ov := (some (aI r41))) (stk2 := [aI r41]) okp_X12_isWord (by decide +kernel) ml_RX12_193 vok_X12_isWord (by decide) rfl nar_X12_isWord (by decide) rfl (Nat.le_of_ble_eq_true rfl) (ok_X12_isWord h39) rfl ?_
                    refine aw_if_eq (off := 12) (tgt := 265) (by decide +kernel) (by decide) (fun c1 => ?_) (fun c1 => ?_)
                    · rw [if_pos c1] at h
                      refine aw_seq [(.iconst 1, 1, (axI 1))] (pc' := 266) (L' := [some (aR 12 0 0), some (aI v1)]) (stk' := [aI 1]) (σ' := σ40) (g := []) (by decide +kernel) rfl rfl ?_
                      refine aw_forget (L' := [none, none]) (lsub_n (lsub_n (lsub_0))) ?_
                      exact ok_X12_beginOne_266 1 σ40 _ h
                    · rw [if_neg c1] at h
                      refine aw_seq [(.aload_n 0, 1, ax0), (.bipush 17, 2, (axI 17))] (pc' := 259) (L' := [some (aR 12 0 0), some (aI v1)]) (stk' := [aI 17, aR 12 0 0]) (σ' := σ40) (g := []) (by decide +kernel) rfl rfl ?_
                      obtain ⟨r44, σ43, h42, h⟩ := bnd_some h
                      refine aw_cV (P' := pX12_waits) (idx := 172) (d' := 3) (c := 12) (n := 0) (k := 0) [aI 17] [] (ov := (some (aI r44))) (stk2 := [aI r44]) okp_X12_waits (by decide +kernel) ml_RX12_172 vok_X12_waits (by decide) rfl nar_X12_waits (by decide) rfl (Nat.le_of_ble_eq_true rfl) (ok_X12_waits h42) rfl ?_
                      refine aw_goto (off := 4) (tgt := 266) (by decide +kernel) (by decide) ?_
                      refine aw_forget (L' := [none, none]) (lsub_n (lsub_n (lsub_0))) ?_
                      exact ok_X12_beginOne_266 r44 σ43 _ h
                  · rw [if_neg c1] at h
                    refine aw_seq [(.aload_n 0, 1, ax0), (.bipush 16, 2, (axI 16))] (pc' := 232) (L' := [some (aR 12 0 0), some (aI v1)]) (stk' := [aI 16, aR 12 0 0]) (σ' := σ34) (g := []) (by decide +kernel) rfl rfl ?_
                    obtain ⟨r47, σ46, h45, h⟩ := bnd_some h
                    refine aw_cV (P' := pX12_waits) (idx := 172) (d' := 3) (c := 12) (n := 0) (k := 0) [aI 16] [] (ov := (some (aI r47))) (stk2 := [aI r47]) okp_X12_waits (by decide +kernel) ml_RX12_172 vok_X12_waits (by decide) rfl nar_X12_waits (by decide) rfl (Nat.le_of_ble_eq_true rfl) (ok_X12_waits h45) rfl ?_
                    refine aw_goto (off := 31) (tgt := 266) (by decide +kernel) (by decide) ?_
                    refine aw_forget (L' := [none, none]) (lsub_n (lsub_n (lsub_0))) ?_
                    exact ok_X12_beginOne_266 r47 σ46 _ h
                · rw [if_neg c1] at h
                  refine aw_seq [(.aload_n 0, 1, ax0), (.bipush 20, 2, (axI 20))] (pc' := 207) (L' := [some (aR 12 0 0), some (aI v1)]) (stk' := [aI 20, aR 12 0 0]) (σ' := σ28) (g := []) (by decide +kernel) rfl rfl ?_
                  obtain ⟨r50, σ49, h48, h⟩ := bnd_some h
                  refine aw_cV (P' := pX12_opened) (idx := 190) (d' := 4) (c := 12) (n := 0) (k := 0) [aI 20] [] (ov := (some (aI r50))) (stk2 := [aI r50]) okp_X12_opened (by decide +kernel) ml_RX12_190 vok_X12_opened (by decide) rfl nar_X12_opened (by decide) rfl (Nat.le_of_ble_eq_true rfl) (ok_X12_opened h48) rfl ?_
                  refine aw_goto (off := 56) (tgt := 266) (by decide +kernel) (by decide) ?_
                  refine aw_forget (L' := [none, none]) (lsub_n (lsub_n (lsub_0))) ?_
                  exact ok_X12_beginOne_266 r50 σ49 _ h
              · rw [if_pos c1] at h
                refine aw_seq [(.iconst 1, 1, (axI 1))] (pc' := 187) (L' := [some (aR 12 0 0), some (aI v1)]) (stk' := [aI 1]) (σ' := σ22) (g := []) (by decide +kernel) rfl rfl ?_
                cases h
                exact aw_iret rfl (by decide +kernel)
            · rw [if_neg c1] at h
              refine aw_seq [(.aload_n 0, 1, ax0), (.bipush 41, 2, (axI 41))] (pc' := 175) (L' := [some (aR 12 0 0), some (aI v1)]) (stk' := [aI 41, aR 12 0 0]) (σ' := σ19) (g := []) (by decide +kernel) rfl rfl ?_
              obtain ⟨r53, σ52, h51, h⟩ := bnd_some h
              refine aw_cV (P' := pX12_opened) (idx := 190) (d' := 4) (c := 12) (n := 0) (k := 0) [aI 41] [] (ov := (some (aI r53))) (stk2 := [aI r53]) okp_X12_opened (by decide +kernel) ml_RX12_190 vok_X12_opened (by decide) rfl nar_X12_opened (by decide) rfl (Nat.le_of_ble_eq_true rfl) (ok_X12_opened h51) rfl ?_
              cases h
              exact aw_iret rfl (by decide +kernel)
          · rw [if_neg c1] at h
            refine aw_seq [(.aload_n 0, 1, ax0), (.iconst 2, 1, (axI 2))] (pc' := 154) (L' := [some (aR 12 0 0), some (aI v1)]) (stk' := [aI 2, aR 12 0 0]) (σ' := σ13) (g := []) (by decide +kernel) rfl rfl ?_
            obtain ⟨r56, σ55, h54, h⟩ := bnd_some h
            refine aw_cV (P' := pX12_opened) (idx := 190) (d' := 4) (c := 12) (n := 0) (k := 0) [aI 2] [] (ov := (some (aI r56))) (stk2 := [aI r56]) okp_X12_opened (by decide +kernel) ml_RX12_190 vok_X12_opened (by decide) rfl nar_X12_opened (by decide) rfl (Nat.le_of_ble_eq_true rfl) (ok_X12_opened h54) rfl ?_
            cases h
            exact aw_iret rfl (by decide +kernel)
        · rw [if_pos c1] at h
          refine aw_seq [(.aload_n 0, 1, ax0), (.iconst 4, 1, (axI 4))] (pc' := 130) (L' := [some (aR 12 0 0), some (aI v1)]) (stk' := [aI 4, aR 12 0 0]) (σ' := σ) (g := []) (by decide +kernel) rfl rfl ?_
          obtain ⟨r59, σ58, h57, h⟩ := bnd_some h
          refine aw_cV (P' := pX12_opened) (idx := 190) (d' := 4) (c := 12) (n := 0) (k := 0) [aI 4] [] (ov := (some (aI r59))) (stk2 := [aI r59]) okp_X12_opened (by decide +kernel) ml_RX12_190 vok_X12_opened (by decide) rfl nar_X12_opened (by decide) rfl (Nat.le_of_ble_eq_true rfl) (ok_X12_opened h57) rfl ?_
          cases h
          exact aw_iret rfl (by decide +kernel)
      · rw [if_pos c1] at h
        refine aw_seq [(.aload_n 0, 1, ax0), (.bipush 40, 2, (axI 40))] (pc' := 115) (L' := [some (aR 12 0 0), some (aI v1)]) (stk' := [aI 40, aR 12 0 0]) (σ' := σ) (g := []) (by decide +kernel) rfl rfl ?_
        obtain ⟨r62, σ61, h60, h⟩ := bnd_some h
        refine aw_cV (P' := pX12_opened) (idx := 190) (d' := 4) (c := 12) (n := 0) (k := 0) [aI 40] [] (ov := (some (aI r62))) (stk2 := [aI r62]) okp_X12_opened (by decide +kernel) ml_RX12_190 vok_X12_opened (by decide) rfl nar_X12_opened (by decide) rfl (Nat.le_of_ble_eq_true rfl) (ok_X12_opened h60) rfl ?_
        cases h
        exact aw_iret rfl (by decide +kernel)
    · rw [if_neg c1] at h
      refine aw_forget (L' := [some (aR 12 0 0), some (aI v1)]) (lsub_s (lsub_s (lsub_0))) ?_
      exact ok_X12_beginOne_53 v1 σ _ h
def f_X12_beginOne_20    (σ : Sg) : Option (Int32 × Sg) :=
  bnd (f_X12_nameOf σ) fun r65 σ64 =>
  if r65 = 8 then (
    if (σ64.1 0 14) = 2 then (
      f_X12_beginOne_41 r65 σ64
    ) else (
      some (5, σ64)
    )
  ) else (
    f_X12_beginOne_41 r65 σ64
  )
set_option maxRecDepth 100000 in
set_option maxHeartbeats 4000000 in
theorem ok_X12_beginOne_20 {κ : Kd}    : ∀  (σ : Sg) (q : (Int32 × Sg)), f_X12_beginOne_20  σ = some q → AW κ pX12_beginOne 6 (some (aI q.1), q.2) 20 [some (aR 12 0 0), none] [] σ := by
  intro  σ q h
  unfold f_X12_beginOne_20 at h
  refine aw_seq [(.aload_n 0, 1, ax0)] (pc' := 21) (L' := [some (aR 12 0 0), none]) (stk' := [aR 12 0 0]) (σ' := σ) (g := []) (by decide +kernel) rfl rfl ?_
  obtain ⟨r65, σ64, h63, h⟩ := bnd_some h
  refine aw_cV (P' := pX12_nameOf) (idx := 178) (d' := 5) (c := 12) (n := 0) (k := 0) [] [] (ov := (some (aI r65))) (stk2 := [aI r65]) okp_X12_nameOf (by decide +kernel) ml_RX12_178 vok_X12_nameOf (by decide) rfl nar_X12_nameOf (by decide) rfl (Nat.le_of_ble_eq_true rfl) (ok_X12_nameOf h63) rfl ?_
  refine aw_seq [(.istore_n 1, 1, ax0), (.iload_n 1, 1, ax0), (.bipush 8, 2, (axI 8))] (pc' := 28) (L' := [some (aR 12 0 0), some (aI r65)]) (stk' := [aI 8, aI r65]) (σ' := σ64) (g := []) (by decide +kernel) rfl rfl ?_
  refine aw_icmp_ne (off := 13) (tgt := 41) (by decide +kernel) (by decide) (fun c1 => ?_) (fun c1 => ?_)
  · rw [if_neg c1] at h
    refine aw_forget (L' := [some (aR 12 0 0), some (aI r65)]) (lsub_s (lsub_s (lsub_0))) ?_
    exact ok_X12_beginOne_41 r65 σ64 _ h
  · rw [if_pos c1] at h
    refine aw_seq [(.aload_n 0, 1, ax0), (.getfield 181, 3, (axF 12 14 (0, 0, 0, none))), (.iconst 2, 1, (axI 2))] (pc' := 36) (L' := [some (aR 12 0 0), some (aI r65)]) (stk' := [aI 2, aI (σ64.1 0 14)]) (σ' := σ64) (g := []) (by decide +kernel) rfl rfl ?_
    refine aw_icmp_eq (off := 5) (tgt := 41) (by decide +kernel) (by decide) (fun c1 => ?_) (fun c1 => ?_)
    · rw [if_pos c1] at h
      refine aw_forget (L' := [some (aR 12 0 0), some (aI r65)]) (lsub_s (lsub_s (lsub_0))) ?_
      exact ok_X12_beginOne_41 r65 σ64 _ h
    · rw [if_neg c1] at h
      refine aw_seq [(.iconst 5, 1, (axI 5))] (pc' := 40) (L' := [some (aR 12 0 0), some (aI r65)]) (stk' := [aI 5]) (σ' := σ64) (g := []) (by decide +kernel) rfl rfl ?_
      cases h
      exact aw_iret rfl (by decide +kernel)
def f_X12_beginOne  (σ : Sg) : Option (Int32 × Sg) :=
  if (σ.1 0 9) = 1 then (
    if (σ.1 0 10) ≤ 9999 then (
      f_X12_beginOne_20 σ
    ) else (
      some (2, σ)
    )
  ) else (
    f_X12_beginOne_20 σ
  )
set_option maxRecDepth 100000 in
set_option maxHeartbeats 4000000 in
theorem ok_X12_beginOne {κ : Kd}  {σ : Sg} {q : (Int32 × Sg)} (h : f_X12_beginOne σ = some q) : AMet κ pX12_beginOne 6 [aR 12 0 0] σ (some (aI q.1), q.2) := by
  unfold f_X12_beginOne at h
  refine amet_of okp_X12_beginOne [(false, aR 12 0 0)] (List.forall_mem_cons.mpr ⟨rfl, (fun _ hn => absurd hn List.not_mem_nil)⟩) 1 rfl ?_
  show AW κ pX12_beginOne 6 (some (aI q.1), q.2) 0 [some (aR 12 0 0), none] [] σ
  refine aw_seq [(.aload_n 0, 1, ax0), (.getfield 108, 3, (axF 12 9 (0, 0, 0, none))), (.iconst 1, 1, (axI 1))] (pc' := 5) (L' := [some (aR 12 0 0), none]) (stk' := [aI 1, aI (σ.1 0 9)]) (σ' := σ) (g := []) (by decide +kernel) rfl rfl ?_
  refine aw_icmp_ne (off := 15) (tgt := 20) (by decide +kernel) (by decide) (fun c1 => ?_) (fun c1 => ?_)
  · rw [if_neg c1] at h
    refine aw_forget (L' := [some (aR 12 0 0), none]) (lsub_s (lsub_n (lsub_0))) ?_
    exact ok_X12_beginOne_20 σ _ h
  · rw [if_pos c1] at h
    refine aw_seq [(.aload_n 0, 1, ax0), (.getfield 114, 3, (axF 12 10 (0, 0, 0, none))), (.sipush 9999, 3, (axI 9999))] (pc' := 15) (L' := [some (aR 12 0 0), none]) (stk' := [aI 9999, aI (σ.1 0 10)]) (σ' := σ) (g := []) (by decide +kernel) rfl rfl ?_
    refine aw_icmp_le (off := 5) (tgt := 20) (by decide +kernel) (by decide) (fun c1 => ?_) (fun c1 => ?_)
    · rw [if_pos c1] at h
      refine aw_forget (L' := [some (aR 12 0 0), none]) (lsub_s (lsub_n (lsub_0))) ?_
      exact ok_X12_beginOne_20 σ _ h
    · rw [if_neg c1] at h
      refine aw_seq [(.iconst 2, 1, (axI 2))] (pc' := 19) (L' := [some (aR 12 0 0), none]) (stk' := [aI 2]) (σ' := σ) (g := []) (by decide +kernel) rfl rfl ?_
      cases h
      exact aw_iret rfl (by decide +kernel)
def f_X12_compareOf_83   (s0 : Int32) (σ : Sg) : Option (Int32 × Sg) :=
  some (s0, σ)
set_option maxRecDepth 100000 in
set_option maxHeartbeats 4000000 in
theorem ok_X12_compareOf_83 {κ : Kd}    : ∀ (s0 : Int32) (σ : Sg) (q : (Int32 × Sg)), f_X12_compareOf_83 s0 σ = some q → AW κ pX12_compareOf 1 (some (aI q.1), q.2) 83 [none] [aI s0] σ := by
  intro s0 σ q h
  unfold f_X12_compareOf_83 at h
  cases h
  exact aw_iret rfl (by decide +kernel)
def f_X12_compareOf  (σ : Sg) : Option (Int32 × Sg) :=
  if (σ.1 0 9) = 60 then (
    f_X12_compareOf_83 10 σ
  ) else (
    if (σ.1 0 9) = 4 then (
      f_X12_compareOf_83 11 σ
    ) else (
      if (σ.1 0 9) = 62 then (
        f_X12_compareOf_83 12 σ
      ) else (
        if (σ.1 0 9) = 5 then (
          f_X12_compareOf_83 13 σ
        ) else (
          if (σ.1 0 9) = 61 then (
            f_X12_compareOf_83 14 σ
          ) else (
            if (σ.1 0 9) = 35 then (
              f_X12_compareOf_83 15 σ
            ) else (
              f_X12_compareOf_83 (-1) σ
            )
          )
        )
      )
    )
  )
set_option maxRecDepth 100000 in
set_option maxHeartbeats 4000000 in
theorem ok_X12_compareOf {κ : Kd}  {σ : Sg} {q : (Int32 × Sg)} (h : f_X12_compareOf σ = some q) : AMet κ pX12_compareOf 1 [aR 12 0 0] σ (some (aI q.1), q.2) := by
  unfold f_X12_compareOf at h
  refine amet_of okp_X12_compareOf [(false, aR 12 0 0)] (List.forall_mem_cons.mpr ⟨rfl, (fun _ hn => absurd hn List.not_mem_nil)⟩) 0 rfl ?_
  show AW κ pX12_compareOf 1 (some (aI q.1), q.2) 0 [some (aR 12 0 0)] [] σ
  refine aw_seq [(.aload_n 0, 1, ax0), (.getfield 108, 3, (axF 12 9 (0, 0, 0, none))), (.bipush 60, 2, (axI 60))] (pc' := 6) (L' := [some (aR 12 0 0)]) (stk' := [aI 60, aI (σ.1 0 9)]) (σ' := σ) (g := []) (by decide +kernel) rfl rfl ?_
  refine aw_icmp_ne (off := 8) (tgt := 14) (by decide +kernel) (by decide) (fun c1 => ?_) (fun c1 => ?_)
  · rw [if_neg c1] at h
    refine aw_seq [(.aload_n 0, 1, ax0), (.getfield 108, 3, (axF 12 9 (0, 0, 0, none))), (.iconst 4, 1, (axI 4))] (pc' := 19) (L' := [some (aR 12 0 0)]) (stk' := [aI 4, aI (σ.1 0 9)]) (σ' := σ) (g := []) (by decide +kernel) rfl rfl ?_
    refine aw_icmp_ne (off := 8) (tgt := 27) (by decide +kernel) (by decide) (fun c1 => ?_) (fun c1 => ?_)
    · rw [if_neg c1] at h
      refine aw_seq [(.aload_n 0, 1, ax0), (.getfield 108, 3, (axF 12 9 (0, 0, 0, none))), (.bipush 62, 2, (axI 62))] (pc' := 33) (L' := [some (aR 12 0 0)]) (stk' := [aI 62, aI (σ.1 0 9)]) (σ' := σ) (g := []) (by decide +kernel) rfl rfl ?_
      refine aw_icmp_ne (off := 8) (tgt := 41) (by decide +kernel) (by decide) (fun c1 => ?_) (fun c1 => ?_)
      · rw [if_neg c1] at h
        refine aw_seq [(.aload_n 0, 1, ax0), (.getfield 108, 3, (axF 12 9 (0, 0, 0, none))), (.iconst 5, 1, (axI 5))] (pc' := 46) (L' := [some (aR 12 0 0)]) (stk' := [aI 5, aI (σ.1 0 9)]) (σ' := σ) (g := []) (by decide +kernel) rfl rfl ?_
        refine aw_icmp_ne (off := 8) (tgt := 54) (by decide +kernel) (by decide) (fun c1 => ?_) (fun c1 => ?_)
        · rw [if_neg c1] at h
          refine aw_seq [(.aload_n 0, 1, ax0), (.getfield 108, 3, (axF 12 9 (0, 0, 0, none))), (.bipush 61, 2, (axI 61))] (pc' := 60) (L' := [some (aR 12 0 0)]) (stk' := [aI 61, aI (σ.1 0 9)]) (σ' := σ) (g := []) (by decide +kernel) rfl rfl ?_
          refine aw_icmp_ne (off := 8) (tgt := 68) (by decide +kernel) (by decide) (fun c1 => ?_) (fun c1 => ?_)
          · rw [if_neg c1] at h
            refine aw_seq [(.aload_n 0, 1, ax0), (.getfield 108, 3, (axF 12 9 (0, 0, 0, none))), (.bipush 35, 2, (axI 35))] (pc' := 74) (L' := [some (aR 12 0 0)]) (stk' := [aI 35, aI (σ.1 0 9)]) (σ' := σ) (g := []) (by decide +kernel) rfl rfl ?_
            refine aw_icmp_ne (off := 8) (tgt := 82) (by decide +kernel) (by decide) (fun c1 => ?_) (fun c1 => ?_)
            · rw [if_neg c1] at h
              refine aw_seq [(.iconst (-1), 1, (axI (-1)))] (pc' := 83) (L' := [some (aR 12 0 0)]) (stk' := [aI (-1)]) (σ' := σ) (g := []) (by decide +kernel) rfl rfl ?_
              refine aw_forget (L' := [none]) (lsub_n (lsub_0)) ?_
              exact ok_X12_compareOf_83 (-1) σ _ h
            · rw [if_pos c1] at h
              refine aw_seq [(.bipush 15, 2, (axI 15))] (pc' := 79) (L' := [some (aR 12 0 0)]) (stk' := [aI 15]) (σ' := σ) (g := []) (by decide +kernel) rfl rfl ?_
              refine aw_goto (off := 4) (tgt := 83) (by decide +kernel) (by decide) ?_
              refine aw_forget (L' := [none]) (lsub_n (lsub_0)) ?_
              exact ok_X12_compareOf_83 15 σ _ h
          · rw [if_pos c1] at h
            refine aw_seq [(.bipush 14, 2, (axI 14))] (pc' := 65) (L' := [some (aR 12 0 0)]) (stk' := [aI 14]) (σ' := σ) (g := []) (by decide +kernel) rfl rfl ?_
            refine aw_goto (off := 18) (tgt := 83) (by decide +kernel) (by decide) ?_
            refine aw_forget (L' := [none]) (lsub_n (lsub_0)) ?_
            exact ok_X12_compareOf_83 14 σ _ h
        · rw [if_pos c1] at h
          refine aw_seq [(.bipush 13, 2, (axI 13))] (pc' := 51) (L' := [some (aR 12 0 0)]) (stk' := [aI 13]) (σ' := σ) (g := []) (by decide +kernel) rfl rfl ?_
          refine aw_goto (off := 32) (tgt := 83) (by decide +kernel) (by decide) ?_
          refine aw_forget (L' := [none]) (lsub_n (lsub_0)) ?_
          exact ok_X12_compareOf_83 13 σ _ h
      · rw [if_pos c1] at h
        refine aw_seq [(.bipush 12, 2, (axI 12))] (pc' := 38) (L' := [some (aR 12 0 0)]) (stk' := [aI 12]) (σ' := σ) (g := []) (by decide +kernel) rfl rfl ?_
        refine aw_goto (off := 45) (tgt := 83) (by decide +kernel) (by decide) ?_
        refine aw_forget (L' := [none]) (lsub_n (lsub_0)) ?_
        exact ok_X12_compareOf_83 12 σ _ h
    · rw [if_pos c1] at h
      refine aw_seq [(.bipush 11, 2, (axI 11))] (pc' := 24) (L' := [some (aR 12 0 0)]) (stk' := [aI 11]) (σ' := σ) (g := []) (by decide +kernel) rfl rfl ?_
      refine aw_goto (off := 59) (tgt := 83) (by decide +kernel) (by decide) ?_
      refine aw_forget (L' := [none]) (lsub_n (lsub_0)) ?_
      exact ok_X12_compareOf_83 11 σ _ h
  · rw [if_pos c1] at h
    refine aw_seq [(.bipush 10, 2, (axI 10))] (pc' := 11) (L' := [some (aR 12 0 0)]) (stk' := [aI 10]) (σ' := σ) (g := []) (by decide +kernel) rfl rfl ?_
    refine aw_goto (off := 72) (tgt := 83) (by decide +kernel) (by decide) ?_
    refine aw_forget (L' := [none]) (lsub_n (lsub_0)) ?_
    exact ok_X12_compareOf_83 10 σ _ h
def f_X12_betweenOf_111   (s0 : Int32) (σ : Sg) : Option (Int32 × Sg) :=
  some (s0, σ)
set_option maxRecDepth 100000 in
set_option maxHeartbeats 4000000 in
theorem ok_X12_betweenOf_111 {κ : Kd}    : ∀ (s0 : Int32) (σ : Sg) (q : (Int32 × Sg)), f_X12_betweenOf_111 s0 σ = some q → AW κ pX12_betweenOf 3 (some (aI q.1), q.2) 111 [none] [aI s0] σ := by
  intro s0 σ q h
  unfold f_X12_betweenOf_111 at h
  cases h
  exact aw_iret rfl (by decide +kernel)
def f_X12_betweenOf  (σ : Sg) : Option (Int32 × Sg) :=
  if (σ.1 0 9) = 43 then (
    some (5, σ)
  ) else (
    if (σ.1 0 9) = 45 then (
      some (6, σ)
    ) else (
      if (σ.1 0 9) = 42 then (
        some (7, σ)
      ) else (
        if (σ.1 0 9) = 47 then (
          some (8, σ)
        ) else (
          bnd (f_X12_openNow σ) fun r3 σ2 =>
          if r3 = 41 then (
            bnd (f_X12_isCompared σ2) fun r6 σ5 =>
            if r6 = 0 then (
              bnd (f_X12_compareOf σ5) fun r21 σ20 =>
              some (r21, σ20)
            ) else (
              bnd (f_X12_w3 97 110 100 σ5) fun r9 σ8 =>
              bnd (f_X12_isWord r9 σ8) fun r12 σ11 =>
              if r12 = 0 then (
                bnd (f_X12_w2 111 114 σ11) fun r15 σ14 =>
                bnd (f_X12_isWord r15 σ14) fun r18 σ17 =>
                if r18 = 0 then (
                  f_X12_betweenOf_111 (-1) σ17
                ) else (
                  f_X12_betweenOf_111 22 σ17
                )
              ) else (
                f_X12_betweenOf_111 21 σ11
              )
            )
          ) else (
            some ((-1), σ2)
          )
        )
      )
    )
  )
set_option maxRecDepth 100000 in
set_option maxHeartbeats 4000000 in
theorem ok_X12_betweenOf {κ : Kd}  {σ : Sg} {q : (Int32 × Sg)} (h : f_X12_betweenOf σ = some q) : AMet κ pX12_betweenOf 3 [aR 12 0 0] σ (some (aI q.1), q.2) := by
  unfold f_X12_betweenOf at h
  refine amet_of okp_X12_betweenOf [(false, aR 12 0 0)] (List.forall_mem_cons.mpr ⟨rfl, (fun _ hn => absurd hn List.not_mem_nil)⟩) 0 rfl ?_
  show AW κ pX12_betweenOf 3 (some (aI q.1), q.2) 0 [some (aR 12 0 0)] [] σ
  refine aw_seq [(.aload_n 0, 1, ax0), (.getfield 108, 3, (axF 12 9 (0, 0, 0, none))), (.bipush 43, 2, (axI 43))] (pc' := 6) (L' := [some (aR 12 0 0)]) (stk' := [aI 43, aI (σ.1 0 9)]) (σ' := σ) (g := []) (by decide +kernel) rfl rfl ?_
  refine aw_icmp_ne (off := 5) (tgt := 11) (by decide +kernel) (by decide) (fun c1 => ?_) (fun c1 => ?_)
  · rw [if_neg c1] at h
    refine aw_seq [(.aload_n 0, 1, ax0), (.getfield 108, 3, (axF 12 9 (0, 0, 0, none))), (.bipush 45, 2, (axI 45))] (pc' := 17) (L' := [some (aR 12 0 0)]) (stk' := [aI 45, aI (σ.1 0 9)]) (σ' := σ) (g := []) (by decide +kernel) rfl rfl ?_
    refine aw_icmp_ne (off := 6) (tgt := 23) (by decide +kernel) (by decide) (fun c1 => ?_) (fun c1 => ?_)
    · rw [if_neg c1] at h
      refine aw_seq [(.aload_n 0, 1, ax0), (.getfield 108, 3, (axF 12 9 (0, 0, 0, none))), (.bipush 42, 2, (axI 42))] (pc' := 29) (L' := [some (aR 12 0 0)]) (stk' := [aI 42, aI (σ.1 0 9)]) (σ' := σ) (g := []) (by decide +kernel) rfl rfl ?_
      refine aw_icmp_ne (off := 6) (tgt := 35) (by decide +kernel) (by decide) (fun c1 => ?_) (fun c1 => ?_)
      · rw [if_neg c1] at h
        refine aw_seq [(.aload_n 0, 1, ax0), (.getfield 108, 3, (axF 12 9 (0, 0, 0, none))), (.bipush 47, 2, (axI 47))] (pc' := 41) (L' := [some (aR 12 0 0)]) (stk' := [aI 47, aI (σ.1 0 9)]) (σ' := σ) (g := []) (by decide +kernel) rfl rfl ?_
        refine aw_icmp_ne (off := 6) (tgt := 47) (by decide +kernel) (by decide) (fun c1 => ?_) (fun c1 => ?_)
        · rw [if_neg c1] at h
          refine aw_seq [(.aload_n 0, 1, ax0)] (pc' := 48) (L' := [some (aR 12 0 0)]) (stk' := [aR 12 0 0]) (σ' := σ) (g := []) (by decide +kernel) rfl rfl ?_
          obtain ⟨r3, σ2, h1, h⟩ := bnd_some h
          refine aw_cV (P' := pX12_openNow) (idx := 169) (d' := 2) (c := 12) (n := 0) (k := 0) [] [] (ov := (some (aI r3))) (stk2 := [aI r3]) okp_X12_openNow (by decide +kernel) ml_RX12_169 vok_X12_openNow (by decide) rfl nar_X12_openNow (by decide) rfl (Nat.le_of_ble_eq_true rfl) (ok_X12_openNow h1) rfl ?_
          refine aw_seq [(.bipush 41, 2, (axI 41))] (pc' := 53) (L' := [some (aR 12 0 0)]) (stk' := [aI 41, aI r3]) (σ' := σ2) (g := []) (by decide +kernel) rfl rfl ?_
          refine aw_icmp_eq (off := 5) (tgt := 58) (by decide +kernel) (by decide) (fun c1 => ?_) (fun c1 => ?_)
          · rw [if_pos c1] at h
            refine aw_seq [(.aload_n 0, 1, ax0)] (pc' := 59) (L' := [some (aR 12 0 0)]) (stk' := [aR 12 0 0]) (σ' := σ2) (g := []) (by decide +kernel) rfl rfl ?_
            obtain ⟨r6, σ5, h4, h⟩ := bnd_some h
            refine aw_cV (P' := pX12_isCompared) (idx := 201) (d' := 2) (c := 12) (n := 0) (k := 0) [] [] (ov := (some (aI r6))) (stk2 := [aI r6]) okp_X12_isCompared (by decide +kernel) ml_RX12_201 vok_X12_isCompared (by decide) rfl nar_X12_isCompared (by decide) rfl (Nat.le_of_ble_eq_true rfl) (ok_X12_isCompared h4) rfl ?_
            refine aw_if_ne (off := 8) (tgt := 70) (by decide +kernel) (by decide) (fun c1 => ?_) (fun c1 => ?_)
            · rw [if_neg c1] at h
              refine aw_seq [(.aload_n 0, 1, ax0), (.bipush 97, 2, (axI 97)), (.bipush 110, 2, (axI 110)), (.bipush 100, 2, (axI 100))] (pc' := 77) (L' := [some (aR 12 0 0)]) (stk' := [aI 100, aI 110, aI 97, aR 12 0 0]) (σ' := σ5) (g := []) (by decide +kernel) rfl rfl ?_
              obtain ⟨r9, σ8, h7, h⟩ := bnd_some h
              refine aw_cS (P' := pX12_w3) (idx := 134) (d' := 2) [aI 97, aI 110, aI 100] [aR 12 0 0] (ov := (some (aL r9))) (stk2 := [aL r9, aR 12 0 0]) okp_X12_w3 (by decide +kernel) ml_RX12_134 tok_X12_w3 nar_X12_w3 (by decide) rfl (Nat.le_of_ble_eq_true rfl) (ok_X12_w3 h7) rfl ?_
              obtain ⟨r12, σ11, h10, h⟩ := bnd_some h
              refine aw_cV (P' := pX12_isWord) (idx := 193) (d' := 1) (c := 12) (n := 0) (k := 0) [aL r9] [] (ov := (some (aI r12))) (stk2 := [aI r12]) okp_X12_isWord (by decide +kernel) ml_RX12_193 vok_X12_isWord (by decide) rfl nar_X12_isWord (by decide) rfl (Nat.le_of_ble_eq_true rfl) (ok_X12_isWord h10) rfl ?_
              refine aw_if_eq (off := 8) (tgt := 91) (by decide +kernel) (by decide) (fun c1 => ?_) (fun c1 => ?_)
              · rw [if_pos c1] at h
                refine aw_seq [(.aload_n 0, 1, ax0), (.bipush 111, 2, (axI 111)), (.bipush 114, 2, (axI 114))] (pc' := 96) (L' := [some (aR 12 0 0)]) (stk' := [aI 114, aI 111, aR 12 0 0]) (σ' := σ11) (g := []) (by decide +kernel) rfl rfl ?_
                obtain ⟨r15, σ14, h13, h⟩ := bnd_some h
                refine aw_cS (P' := pX12_w2) (idx := 130) (d' := 1) [aI 111, aI 114] [aR 12 0 0] (ov := (some (aL r15))) (stk2 := [aL r15, aR 12 0 0]) okp_X12_w2 (by decide +kernel) ml_RX12_130 tok_X12_w2 nar_X12_w2 (by decide) rfl (Nat.le_of_ble_eq_true rfl) (ok_X12_w2 h13) rfl ?_
                obtain ⟨r18, σ17, h16, h⟩ := bnd_some h
                refine aw_cV (P' := pX12_isWord) (idx := 193) (d' := 1) (c := 12) (n := 0) (k := 0) [aL r15] [] (ov := (some (aI r18))) (stk2 := [aI r18]) okp_X12_isWord (by decide +kernel) ml_RX12_193 vok_X12_isWord (by decide) rfl nar_X12_isWord (by decide) rfl (Nat.le_of_ble_eq_true rfl) (ok_X12_isWord h16) rfl ?_
                refine aw_if_eq (off := 8) (tgt := 110) (by decide +kernel) (by decide) (fun c1 => ?_) (fun c1 => ?_)
                · rw [if_pos c1] at h
                  refine aw_seq [(.iconst (-1), 1, (axI (-1)))] (pc' := 111) (L' := [some (aR 12 0 0)]) (stk' := [aI (-1)]) (σ' := σ17) (g := []) (by decide +kernel) rfl rfl ?_
                  refine aw_forget (L' := [none]) (lsub_n (lsub_0)) ?_
                  exact ok_X12_betweenOf_111 (-1) σ17 _ h
                · rw [if_neg c1] at h
                  refine aw_seq [(.bipush 22, 2, (axI 22))] (pc' := 107) (L' := [some (aR 12 0 0)]) (stk' := [aI 22]) (σ' := σ17) (g := []) (by decide +kernel) rfl rfl ?_
                  refine aw_goto (off := 4) (tgt := 111) (by decide +kernel) (by decide) ?_
                  refine aw_forget (L' := [none]) (lsub_n (lsub_0)) ?_
                  exact ok_X12_betweenOf_111 22 σ17 _ h
              · rw [if_neg c1] at h
                refine aw_seq [(.bipush 21, 2, (axI 21))] (pc' := 88) (L' := [some (aR 12 0 0)]) (stk' := [aI 21]) (σ' := σ11) (g := []) (by decide +kernel) rfl rfl ?_
                refine aw_goto (off := 23) (tgt := 111) (by decide +kernel) (by decide) ?_
                refine aw_forget (L' := [none]) (lsub_n (lsub_0)) ?_
                exact ok_X12_betweenOf_111 21 σ11 _ h
            · rw [if_pos c1] at h
              refine aw_seq [(.aload_n 0, 1, ax0)] (pc' := 66) (L' := [some (aR 12 0 0)]) (stk' := [aR 12 0 0]) (σ' := σ5) (g := []) (by decide +kernel) rfl rfl ?_
              obtain ⟨r21, σ20, h19, h⟩ := bnd_some h
              refine aw_cV (P' := pX12_compareOf) (idx := 204) (d' := 1) (c := 12) (n := 0) (k := 0) [] [] (ov := (some (aI r21))) (stk2 := [aI r21]) okp_X12_compareOf (by decide +kernel) ml_RX12_204 vok_X12_compareOf (by decide) rfl nar_X12_compareOf (by decide) rfl (Nat.le_of_ble_eq_true rfl) (ok_X12_compareOf h19) rfl ?_
              cases h
              exact aw_iret rfl (by decide +kernel)
          · rw [if_neg c1] at h
            refine aw_seq [(.iconst (-1), 1, (axI (-1)))] (pc' := 57) (L' := [some (aR 12 0 0)]) (stk' := [aI (-1)]) (σ' := σ2) (g := []) (by decide +kernel) rfl rfl ?_
            cases h
            exact aw_iret rfl (by decide +kernel)
        · rw [if_pos c1] at h
          refine aw_seq [(.bipush 8, 2, (axI 8))] (pc' := 46) (L' := [some (aR 12 0 0)]) (stk' := [aI 8]) (σ' := σ) (g := []) (by decide +kernel) rfl rfl ?_
          cases h
          exact aw_iret rfl (by decide +kernel)
      · rw [if_pos c1] at h
        refine aw_seq [(.bipush 7, 2, (axI 7))] (pc' := 34) (L' := [some (aR 12 0 0)]) (stk' := [aI 7]) (σ' := σ) (g := []) (by decide +kernel) rfl rfl ?_
        cases h
        exact aw_iret rfl (by decide +kernel)
    · rw [if_pos c1] at h
      refine aw_seq [(.bipush 6, 2, (axI 6))] (pc' := 22) (L' := [some (aR 12 0 0)]) (stk' := [aI 6]) (σ' := σ) (g := []) (by decide +kernel) rfl rfl ?_
      cases h
      exact aw_iret rfl (by decide +kernel)
  · rw [if_pos c1] at h
    refine aw_seq [(.iconst 5, 1, (axI 5))] (pc' := 10) (L' := [some (aR 12 0 0)]) (stk' := [aI 5]) (σ' := σ) (g := []) (by decide +kernel) rfl rfl ?_
    cases h
    exact aw_iret rfl (by decide +kernel)
def f_X12_partOf_46   (s0 : Int32) (σ : Sg) : Option (Int32 × Sg) :=
  some (s0, σ)
set_option maxRecDepth 100000 in
set_option maxHeartbeats 4000000 in
theorem ok_X12_partOf_46 {κ : Kd}    : ∀ (s0 : Int32) (σ : Sg) (q : (Int32 × Sg)), f_X12_partOf_46 s0 σ = some q → AW κ pX12_partOf 4 (some (aI q.1), q.2) 46 [none, none] [aI s0] σ := by
  intro s0 σ q h
  unfold f_X12_partOf_46 at h
  cases h
  exact aw_iret rfl (by decide +kernel)
def f_X12_partOf_78   (s0 : Int32) (σ : Sg) : Option (Int32 × Sg) :=
  some (s0, σ)
set_option maxRecDepth 100000 in
set_option maxHeartbeats 4000000 in
theorem ok_X12_partOf_78 {κ : Kd}    : ∀ (s0 : Int32) (σ : Sg) (q : (Int32 × Sg)), f_X12_partOf_78 s0 σ = some q → AW κ pX12_partOf 4 (some (aI q.1), q.2) 78 [none, none] [aI s0] σ := by
  intro s0 σ q h
  unfold f_X12_partOf_78 at h
  cases h
  exact aw_iret rfl (by decide +kernel)
def f_X12_partOf_77    (σ : Sg) : Option (Int32 × Sg) :=
  f_X12_partOf_78 (-1) σ
set_option maxRecDepth 100000 in
set_option maxHeartbeats 4000000 in
theorem ok_X12_partOf_77 {κ : Kd}    : ∀  (σ : Sg) (q : (Int32 × Sg)), f_X12_partOf_77  σ = some q → AW κ pX12_partOf 4 (some (aI q.1), q.2) 77 [none, none] [] σ := by
  intro  σ q h
  unfold f_X12_partOf_77 at h
  refine aw_seq [(.iconst (-1), 1, (axI (-1)))] (pc' := 78) (L' := [none, none]) (stk' := [aI (-1)]) (σ' := σ) (g := []) (by decide +kernel) rfl rfl ?_
  refine aw_forget (L' := [none, none]) (lsub_n (lsub_n (lsub_0))) ?_
  exact ok_X12_partOf_78 (-1) σ _ h
def f_X12_partOf_103   (s0 : Int32) (σ : Sg) : Option (Int32 × Sg) :=
  some (s0, σ)
set_option maxRecDepth 100000 in
set_option maxHeartbeats 4000000 in
theorem ok_X12_partOf_103 {κ : Kd}    : ∀ (s0 : Int32) (σ : Sg) (q : (Int32 × Sg)), f_X12_partOf_103 s0 σ = some q → AW κ pX12_partOf 4 (some (aI q.1), q.2) 103 [none, none] [aI s0] σ := by
  intro s0 σ q h
  unfold f_X12_partOf_103 at h
  cases h
  exact aw_iret rfl (by decide +kernel)
def f_X12_partOf_125   (s0 : Int32) (σ : Sg) : Option (Int32 × Sg) :=
  some (s0, σ)
set_option maxRecDepth 100000 in
set_option maxHeartbeats 4000000 in
theorem ok_X12_partOf_125 {κ : Kd}    : ∀ (s0 : Int32) (σ : Sg) (q : (Int32 × Sg)), f_X12_partOf_125 s0 σ = some q → AW κ pX12_partOf 4 (some (aI q.1), q.2) 125 [none, none] [aI s0] σ := by
  intro s0 σ q h
  unfold f_X12_partOf_125 at h
  cases h
  exact aw_iret rfl (by decide +kernel)
def f_X12_partOf (v1 : Int32) (σ : Sg) : Option (Int32 × Sg) :=
  if v1 = 40 then (
    if (σ.1 0 9) = 41 then (
      f_X12_partOf_46 0 σ
    ) else (
      f_X12_partOf_46 (-1) σ
    )
  ) else (
  if v1 = 41 then (
    bnd (f_X12_w4 116 104 101 110 σ) fun r3 σ2 =>
    bnd (f_X12_isWord r3 σ2) fun r6 σ5 =>
    if r6 = 0 then (
      f_X12_partOf_77 σ5
    ) else (
      bnd (f_X12_isCompared σ5) fun r9 σ8 =>
      if r9 = 0 then (
        f_X12_partOf_77 σ8
      ) else (
        f_X12_partOf_78 42 σ8
      )
    )
  ) else (
  if v1 = 42 then (
    bnd (f_X12_w4 101 108 115 101 σ) fun r12 σ11 =>
    bnd (f_X12_isWord r12 σ11) fun r15 σ14 =>
    if r15 = 0 then (
      f_X12_partOf_103 (-1) σ14
    ) else (
      f_X12_partOf_103 43 σ14
    )
  ) else (
  if v1 = 43 then (
    bnd (f_X12_w3 101 110 100 σ) fun r18 σ17 =>
    bnd (f_X12_isWord r18 σ17) fun r21 σ20 =>
    if r21 = 0 then (
      f_X12_partOf_125 (-1) σ20
    ) else (
      f_X12_partOf_125 0 σ20
    )
  ) else (
    some ((-1), σ)
  ))))
set_option maxRecDepth 100000 in
set_option maxHeartbeats 4000000 in
theorem ok_X12_partOf {κ : Kd} {v1 : Int32} {σ : Sg} {q : (Int32 × Sg)} (h : f_X12_partOf v1 σ = some q) : AMet κ pX12_partOf 4 [aR 12 0 0, aI v1] σ (some (aI q.1), q.2) := by
  unfold f_X12_partOf at h
  refine amet_of okp_X12_partOf [(false, aR 12 0 0), (false, aI v1)] (List.forall_mem_cons.mpr ⟨rfl, List.forall_mem_cons.mpr ⟨rfl, (fun _ hn => absurd hn List.not_mem_nil)⟩⟩) 0 rfl ?_
  show AW κ pX12_partOf 4 (some (aI q.1), q.2) 0 [some (aR 12 0 0), some (aI v1)] [] σ
  refine aw_seq [(.iload_n 1, 1, ax0)] (pc' := 1) (L' := [some (aR 12 0 0), some (aI v1)]) (stk' := [aI v1]) (σ' := σ) (g := []) (by decide +kernel) rfl rfl ?_
  refine aw_table (dflt := 125) (lo := 40) (hi := 43) (offs := #[31, 46, 78, 103]) (len := 31) (dt := 126) (by decide +kernel) [(40, 32), (41, 47), (42, 79), (43, 104)] (by decide +kernel) ?_
  refine awsw_cons (fun c1 => ?_) (fun c1 => ?_)
  · rw [if_pos c1] at h
    refine aw_seq [(.aload_n 0, 1, ax0), (.getfield 108, 3, (axF 12 9 (0, 0, 0, none))), (.bipush 41, 2, (axI 41))] (pc' := 38) (L' := [some (aR 12 0 0), some (aI v1)]) (stk' := [aI 41, aI (σ.1 0 9)]) (σ' := σ) (g := []) (by decide +kernel) rfl rfl ?_
    refine aw_icmp_ne (off := 7) (tgt := 45) (by decide +kernel) (by decide) (fun c1 => ?_) (fun c1 => ?_)
    · rw [if_neg c1] at h
      refine aw_seq [(.iconst (-1), 1, (axI (-1)))] (pc' := 46) (L' := [some (aR 12 0 0), some (aI v1)]) (stk' := [aI (-1)]) (σ' := σ) (g := []) (by decide +kernel) rfl rfl ?_
      refine aw_forget (L' := [none, none]) (lsub_n (lsub_n (lsub_0))) ?_
      exact ok_X12_partOf_46 (-1) σ _ h
    · rw [if_pos c1] at h
      refine aw_seq [(.iconst 0, 1, (axI 0))] (pc' := 42) (L' := [some (aR 12 0 0), some (aI v1)]) (stk' := [aI 0]) (σ' := σ) (g := []) (by decide +kernel) rfl rfl ?_
      refine aw_goto (off := 4) (tgt := 46) (by decide +kernel) (by decide) ?_
      refine aw_forget (L' := [none, none]) (lsub_n (lsub_n (lsub_0))) ?_
      exact ok_X12_partOf_46 0 σ _ h
  rw [if_neg c1] at h
  refine awsw_cons (fun c1 => ?_) (fun c1 => ?_)
  · rw [if_pos c1] at h
    refine aw_seq [(.aload_n 0, 1, ax0), (.bipush 116, 2, (axI 116)), (.bipush 104, 2, (axI 104)), (.bipush 101, 2, (axI 101)), (.bipush 110, 2, (axI 110))] (pc' := 56) (L' := [some (aR 12 0 0), some (aI v1)]) (stk' := [aI 110, aI 101, aI 104, aI 116, aR 12 0 0]) (σ' := σ) (g := []) (by decide +kernel) rfl rfl ?_
    obtain ⟨r3, σ2, h1, h⟩ := bnd_some h
    refine aw_cS (P' := pX12_w4) (idx := 138) (d' := 3) [aI 116, aI 104, aI 101, aI 110] [aR 12 0 0] (ov := (some (aL r3))) (stk2 := [aL r3, aR 12 0 0]) okp_X12_w4 (by decide +kernel) ml_RX12_138 tok_X12_w4 nar_X12_w4 (by decide) rfl (Nat.le_of_ble_eq_true rfl) (ok_X12_w4 h1) rfl ?_
    obtain ⟨r6, σ5, h4, h⟩ := bnd_some h
    refine aw_cV (P' := pX12_isWord) (idx := 193) (d' := 1) (c := 12) (n := 0) (k := 0) [aL r3] [] (ov := (some (aI r6))) (stk2 := [aI r6]) okp_X12_isWord (by decide +kernel) ml_RX12_193 vok_X12_isWord (by decide) rfl nar_X12_isWord (by decide) rfl (Nat.le_of_ble_eq_true rfl) (ok_X12_isWord h4) rfl ?_
    refine aw_if_eq (off := 15) (tgt := 77) (by decide +kernel) (by decide) (fun c1 => ?_) (fun c1 => ?_)
    · rw [if_pos c1] at h
      refine aw_forget (L' := [none, none]) (lsub_n (lsub_n (lsub_0))) ?_
      exact ok_X12_partOf_77 σ5 _ h
    · rw [if_neg c1] at h
      refine aw_seq [(.aload_n 0, 1, ax0)] (pc' := 66) (L' := [some (aR 12 0 0), some (aI v1)]) (stk' := [aR 12 0 0]) (σ' := σ5) (g := []) (by decide +kernel) rfl rfl ?_
      obtain ⟨r9, σ8, h7, h⟩ := bnd_some h
      refine aw_cV (P' := pX12_isCompared) (idx := 201) (d' := 2) (c := 12) (n := 0) (k := 0) [] [] (ov := (some (aI r9))) (stk2 := [aI r9]) okp_X12_isCompared (by decide +kernel) ml_RX12_201 vok_X12_isCompared (by decide) rfl nar_X12_isCompared (by decide) rfl (Nat.le_of_ble_eq_true rfl) (ok_X12_isCompared h7) rfl ?_
      refine aw_if_eq (off := 8) (tgt := 77) (by decide +kernel) (by decide) (fun c1 => ?_) (fun c1 => ?_)
      · rw [if_pos c1] at h
        refine aw_forget (L' := [none, none]) (lsub_n (lsub_n (lsub_0))) ?_
        exact ok_X12_partOf_77 σ8 _ h
      · rw [if_neg c1] at h
        refine aw_seq [(.bipush 42, 2, (axI 42))] (pc' := 74) (L' := [some (aR 12 0 0), some (aI v1)]) (stk' := [aI 42]) (σ' := σ8) (g := []) (by decide +kernel) rfl rfl ?_
        refine aw_goto (off := 4) (tgt := 78) (by decide +kernel) (by decide) ?_
        refine aw_forget (L' := [none, none]) (lsub_n (lsub_n (lsub_0))) ?_
        exact ok_X12_partOf_78 42 σ8 _ h
  rw [if_neg c1] at h
  refine awsw_cons (fun c1 => ?_) (fun c1 => ?_)
  · rw [if_pos c1] at h
    refine aw_seq [(.aload_n 0, 1, ax0), (.bipush 101, 2, (axI 101)), (.bipush 108, 2, (axI 108)), (.bipush 115, 2, (axI 115)), (.bipush 101, 2, (axI 101))] (pc' := 88) (L' := [some (aR 12 0 0), some (aI v1)]) (stk' := [aI 101, aI 115, aI 108, aI 101, aR 12 0 0]) (σ' := σ) (g := []) (by decide +kernel) rfl rfl ?_
    obtain ⟨r12, σ11, h10, h⟩ := bnd_some h
    refine aw_cS (P' := pX12_w4) (idx := 138) (d' := 3) [aI 101, aI 108, aI 115, aI 101] [aR 12 0 0] (ov := (some (aL r12))) (stk2 := [aL r12, aR 12 0 0]) okp_X12_w4 (by decide +kernel) ml_RX12_138 tok_X12_w4 nar_X12_w4 (by decide) rfl (Nat.le_of_ble_eq_true rfl) (ok_X12_w4 h10) rfl ?_
    obtain ⟨r15, σ14, h13, h⟩ := bnd_some h
    refine aw_cV (P' := pX12_isWord) (idx := 193) (d' := 1) (c := 12) (n := 0) (k := 0) [aL r12] [] (ov := (some (aI r15))) (stk2 := [aI r15]) okp_X12_isWord (by decide +kernel) ml_RX12_193 vok_X12_isWord (by decide) rfl nar_X12_isWord (by decide) rfl (Nat.le_of_ble_eq_true rfl) (ok_X12_isWord h13) rfl ?_
    refine aw_if_eq (off := 8) (tgt := 102) (by decide +kernel) (by decide) (fun c1 => ?_) (fun c1 => ?_)
    · rw [if_pos c1] at h
      refine aw_seq [(.iconst (-1), 1, (axI (-1)))] (pc' := 103) (L' := [some (aR 12 0 0), some (aI v1)]) (stk' := [aI (-1)]) (σ' := σ14) (g := []) (by decide +kernel) rfl rfl ?_
      refine aw_forget (L' := [none, none]) (lsub_n (lsub_n (lsub_0))) ?_
      exact ok_X12_partOf_103 (-1) σ14 _ h
    · rw [if_neg c1] at h
      refine aw_seq [(.bipush 43, 2, (axI 43))] (pc' := 99) (L' := [some (aR 12 0 0), some (aI v1)]) (stk' := [aI 43]) (σ' := σ14) (g := []) (by decide +kernel) rfl rfl ?_
      refine aw_goto (off := 4) (tgt := 103) (by decide +kernel) (by decide) ?_
      refine aw_forget (L' := [none, none]) (lsub_n (lsub_n (lsub_0))) ?_
      exact ok_X12_partOf_103 43 σ14 _ h
  rw [if_neg c1] at h
  refine awsw_cons (fun c1 => ?_) (fun c1 => ?_)
  · rw [if_pos c1] at h
    refine aw_seq [(.aload_n 0, 1, ax0), (.bipush 101, 2, (axI 101)), (.bipush 110, 2, (axI 110)), (.bipush 100, 2, (axI 100))] (pc' := 111) (L' := [some (aR 12 0 0), some (aI v1)]) (stk' := [aI 100, aI 110, aI 101, aR 12 0 0]) (σ' := σ) (g := []) (by decide +kernel) rfl rfl ?_
    obtain ⟨r18, σ17, h16, h⟩ := bnd_some h
    refine aw_cS (P' := pX12_w3) (idx := 134) (d' := 2) [aI 101, aI 110, aI 100] [aR 12 0 0] (ov := (some (aL r18))) (stk2 := [aL r18, aR 12 0 0]) okp_X12_w3 (by decide +kernel) ml_RX12_134 tok_X12_w3 nar_X12_w3 (by decide) rfl (Nat.le_of_ble_eq_true rfl) (ok_X12_w3 h16) rfl ?_
    obtain ⟨r21, σ20, h19, h⟩ := bnd_some h
    refine aw_cV (P' := pX12_isWord) (idx := 193) (d' := 1) (c := 12) (n := 0) (k := 0) [aL r18] [] (ov := (some (aI r21))) (stk2 := [aI r21]) okp_X12_isWord (by decide +kernel) ml_RX12_193 vok_X12_isWord (by decide) rfl nar_X12_isWord (by decide) rfl (Nat.le_of_ble_eq_true rfl) (ok_X12_isWord h19) rfl ?_
    refine aw_if_eq (off := 7) (tgt := 124) (by decide +kernel) (by decide) (fun c1 => ?_) (fun c1 => ?_)
    · rw [if_pos c1] at h
      refine aw_seq [(.iconst (-1), 1, (axI (-1)))] (pc' := 125) (L' := [some (aR 12 0 0), some (aI v1)]) (stk' := [aI (-1)]) (σ' := σ20) (g := []) (by decide +kernel) rfl rfl ?_
      refine aw_forget (L' := [none, none]) (lsub_n (lsub_n (lsub_0))) ?_
      exact ok_X12_partOf_125 (-1) σ20 _ h
    · rw [if_neg c1] at h
      refine aw_seq [(.iconst 0, 1, (axI 0))] (pc' := 121) (L' := [some (aR 12 0 0), some (aI v1)]) (stk' := [aI 0]) (σ' := σ20) (g := []) (by decide +kernel) rfl rfl ?_
      refine aw_goto (off := 4) (tgt := 125) (by decide +kernel) (by decide) ?_
      refine aw_forget (L' := [none, none]) (lsub_n (lsub_n (lsub_0))) ?_
      exact ok_X12_partOf_125 0 σ20 _ h
  rw [if_neg c1] at h
  refine awsw_nil ?_
  refine aw_seq [(.iconst (-1), 1, (axI (-1)))] (pc' := 127) (L' := [some (aR 12 0 0), some (aI v1)]) (stk' := [aI (-1)]) (σ' := σ) (g := []) (by decide +kernel) rfl rfl ?_
  cases h
  exact aw_iret rfl (by decide +kernel)
def f_X12_behindOne_26   (v1 : Int32) (s1 : Int32) (σ : Sg) : Option (Int32 × Sg) :=
  bndV (f_X12_settle s1 σ) fun σ2 =>
  bnd (f_X12_waits v1 σ2) fun r5 σ4 =>
  grd (bz 0 && true) <|
  ltσ (wI σ4 0 18 0) fun σ6 =>
  some (1, σ6)
set_option maxRecDepth 100000 in
set_option maxHeartbeats 4000000 in
theorem ok_X12_behindOne_26 {κ : Kd}    : ∀ (v1 : Int32) (s1 : Int32) (σ : Sg) (q : (Int32 × Sg)), f_X12_behindOne_26 v1 s1 σ = some q → AW κ pX12_behindOne 5 (some (aI q.1), q.2) 26 [some (aR 12 0 0), some (aI v1), none, none] [aI s1, aR 12 0 0] σ := by
  intro v1 s1 σ q h
  unfold f_X12_behindOne_26 at h
  obtain ⟨σ2, h1, h⟩ := bndV_some h
  refine aw_cV (P' := pX12_settle) (idx := 187) (d' := 2) (c := 12) (n := 0) (k := 0) [aI s1] [] (ov := none) (stk2 := []) okp_X12_settle (by decide +kernel) ml_RX12_187 vok_X12_settle (by decide) rfl nar_X12_settle (by decide) rfl (Nat.le_of_ble_eq_true rfl) (ok_X12_settle h1) rfl ?_
  refine aw_seq [(.aload_n 0, 1, ax0), (.iload_n 1, 1, ax0)] (pc' := 31) (L' := [some (aR 12 0 0), some (aI v1), none, none]) (stk' := [aI v1, aR 12 0 0]) (σ' := σ2) (g := []) (by decide +kernel) rfl rfl ?_
  obtain ⟨r5, σ4, h3, h⟩ := bnd_some h
  refine aw_cV (P' := pX12_waits) (idx := 172) (d' := 3) (c := 12) (n := 0) (k := 0) [aI v1] [] (ov := (some (aI r5))) (stk2 := [aI r5]) okp_X12_waits (by decide +kernel) ml_RX12_172 vok_X12_waits (by decide) rfl nar_X12_waits (by decide) rfl (Nat.le_of_ble_eq_true rfl) (ok_X12_waits h3) rfl ?_
  obtain ⟨hg, h⟩ := grd_some h
  obtain ⟨σ6, e7, h⟩ := ltσ_some h
  refine aw_seq [(.pop, 1, ax0), (.aload_n 0, 1, ax0), (.iconst 0, 1, (axI 0)), (.putfield 184, 3, (axF 12 18 (3, 0, 0, none)))] (pc' := 40) (L' := [some (aR 12 0 0), some (aI v1), none, none]) (stk' := []) (σ' := σ6) (g := [bz 0]) (by decide +kernel) (by rw [e7]; rfl) hg ?_
  refine aw_seq [(.iconst 1, 1, (axI 1))] (pc' := 41) (L' := [some (aR 12 0 0), some (aI v1), none, none]) (stk' := [aI 1]) (σ' := σ6) (g := []) (by decide +kernel) rfl rfl ?_
  cases h
  exact aw_zret rfl bz_1 (by decide +kernel)
def f_X12_behindOne_121    (σ : Sg) : Option (Int32 × Sg) :=
  bndV (f_X12_settle 7 σ) fun σ9 =>
  some (1, σ9)
set_option maxRecDepth 100000 in
set_option maxHeartbeats 4000000 in
theorem ok_X12_behindOne_121 {κ : Kd}    : ∀  (σ : Sg) (q : (Int32 × Sg)), f_X12_behindOne_121  σ = some q → AW κ pX12_behindOne 5 (some (aI q.1), q.2) 121 [some (aR 12 0 0), none, none, none] [] σ := by
  intro  σ q h
  unfold f_X12_behindOne_121 at h
  refine aw_seq [(.aload_n 0, 1, ax0), (.bipush 7, 2, (axI 7))] (pc' := 124) (L' := [some (aR 12 0 0), none, none, none]) (stk' := [aI 7, aR 12 0 0]) (σ' := σ) (g := []) (by decide +kernel) rfl rfl ?_
  obtain ⟨σ9, h8, h⟩ := bndV_some h
  refine aw_cV (P' := pX12_settle) (idx := 187) (d' := 2) (c := 12) (n := 0) (k := 0) [aI 7] [] (ov := none) (stk2 := []) okp_X12_settle (by decide +kernel) ml_RX12_187 vok_X12_settle (by decide) rfl nar_X12_settle (by decide) rfl (Nat.le_of_ble_eq_true rfl) (ok_X12_settle h8) rfl ?_
  refine aw_seq [(.iconst 1, 1, (axI 1))] (pc' := 128) (L' := [some (aR 12 0 0), none, none, none]) (stk' := [aI 1]) (σ' := σ9) (g := []) (by decide +kernel) rfl rfl ?_
  cases h
  exact aw_zret rfl bz_1 (by decide +kernel)
def f_X12_behindOne  (σ : Sg) : Option (Int32 × Sg) :=
  bnd (f_X12_betweenOf σ) fun r12 σ11 =>
  if r12 < 0 then (
    bnd (f_X12_openNow σ11) fun r15 σ14 =>
    bnd (f_X12_partOf r15 σ14) fun r18 σ17 =>
    if 0 ≤ r18 then (
      bndV (f_X12_settle 1 σ17) fun σ20 =>
      bndV (f_X12_nextToken σ20) fun σ22 =>
      if r18 ≤ 0 then (
        ltσ (wI σ22 0 17 ((σ22.1 0 17) - 1)) fun σ23 =>
        ltσ (wI σ23 0 16 ((σ23.1 0 16) - 1)) fun σ25 =>
        if r15 = 43 then (
          bndV (f_X12_emit 3 0 σ25) fun σ28 =>
          f_X12_behindOne_121 σ28
        ) else (
          f_X12_behindOne_121 σ25
        )
      ) else (
        bnd (f_X12_openAt σ22) fun r31 σ30 =>
        grd (inb r31 160 && true) <|
        ltσ (wI σ30 5 (ix r31) r18) fun σ32 =>
        grd (bz 0 && true) <|
        ltσ (wI σ32 0 18 0) fun σ34 =>
        some (1, σ34)
      )
    ) else (
      some (0, σ17)
    )
  ) else (
    bnd (f_X12_rank r12 σ11) fun r38 σ37 =>
    if r38 = 4 then (
      f_X12_behindOne_26 r12 5 σ37
    ) else (
      bnd (f_X12_rank r12 σ37) fun r41 σ40 =>
      f_X12_behindOne_26 r12 r41 σ40
    )
  )
set_option maxRecDepth 100000 in
set_option maxHeartbeats 4000000 in
theorem ok_X12_behindOne {κ : Kd}  {σ : Sg} {q : (Int32 × Sg)} (h : f_X12_behindOne σ = some q) : AMet κ pX12_behindOne 5 [aR 12 0 0] σ (some (aI q.1), q.2) := by
  unfold f_X12_behindOne at h
  refine amet_of okp_X12_behindOne [(false, aR 12 0 0)] (List.forall_mem_cons.mpr ⟨rfl, (fun _ hn => absurd hn List.not_mem_nil)⟩) 3 rfl ?_
  show AW κ pX12_behindOne 5 (some (aI q.1), q.2) 0 [some (aR 12 0 0), none, none, none] [] σ
  refine aw_seq [(.aload_n 0, 1, ax0)] (pc' := 1) (L' := [some (aR 12 0 0), none, none, none]) (stk' := [aR 12 0 0]) (σ' := σ) (g := []) (by decide +kernel) rfl rfl ?_
  obtain ⟨r12, σ11, h10, h⟩ := bnd_some h
  refine aw_cV (P' := pX12_betweenOf) (idx := 207) (d' := 3) (c := 12) (n := 0) (k := 0) [] [] (ov := (some (aI r12))) (stk2 := [aI r12]) okp_X12_betweenOf (by decide +kernel) ml_RX12_207 vok_X12_betweenOf (by decide) rfl nar_X12_betweenOf (by decide) rfl (Nat.le_of_ble_eq_true rfl) (ok_X12_betweenOf h10) rfl ?_
  refine aw_seq [(.istore_n 1, 1, ax0), (.iload_n 1, 1, ax0)] (pc' := 6) (L' := [some (aR 12 0 0), some (aI r12), none, none]) (stk' := [aI r12]) (σ' := σ11) (g := []) (by decide +kernel) rfl rfl ?_
  refine aw_if_lt (off := 36) (tgt := 42) (by decide +kernel) (by decide) (fun c1 => ?_) (fun c1 => ?_)
  · rw [if_pos c1] at h
    refine aw_seq [(.aload_n 0, 1, ax0)] (pc' := 43) (L' := [some (aR 12 0 0), some (aI r12), none, none]) (stk' := [aR 12 0 0]) (σ' := σ11) (g := []) (by decide +kernel) rfl rfl ?_
    obtain ⟨r15, σ14, h13, h⟩ := bnd_some h
    refine aw_cV (P' := pX12_openNow) (idx := 169) (d' := 2) (c := 12) (n := 0) (k := 0) [] [] (ov := (some (aI r15))) (stk2 := [aI r15]) okp_X12_openNow (by decide +kernel) ml_RX12_169 vok_X12_openNow (by decide) rfl nar_X12_openNow (by decide) rfl (Nat.le_of_ble_eq_true rfl) (ok_X12_openNow h13) rfl ?_
    refine aw_seq [(.istore_n 2, 1, ax0), (.aload_n 0, 1, ax0), (.iload_n 2, 1, ax0)] (pc' := 49) (L' := [some (aR 12 0 0), some (aI r12), some (aI r15), none]) (stk' := [aI r15, aR 12 0 0]) (σ' := σ14) (g := []) (by decide +kernel) rfl rfl ?_
    obtain ⟨r18, σ17, h16, h⟩ := bnd_some h
    refine aw_cV (P' := pX12_partOf) (idx := 210) (d' := 4) (c := 12) (n := 0) (k := 0) [aI r15] [] (ov := (some (aI r18))) (stk2 := [aI r18]) okp_X12_partOf (by decide +kernel) ml_RX12_210 vok_X12_partOf (by decide) rfl nar_X12_partOf (by decide) rfl (Nat.le_of_ble_eq_true rfl) (ok_X12_partOf h16) rfl ?_
    refine aw_seq [(.istore_n 3, 1, ax0), (.iload_n 3, 1, ax0)] (pc' := 54) (L' := [some (aR 12 0 0), some (aI r12), some (aI r15), some (aI r18)]) (stk' := [aI r18]) (σ' := σ17) (g := []) (by decide +kernel) rfl rfl ?_
    refine aw_if_ge (off := 5) (tgt := 59) (by decide +kernel) (by decide) (fun c1 => ?_) (fun c1 => ?_)
    · rw [if_pos c1] at h
      refine aw_seq [(.aload_n 0, 1, ax0), (.iconst 1, 1, (axI 1))] (pc' := 61) (L' := [some (aR 12 0 0), some (aI r12), some (aI r15), some (aI r18)]) (stk' := [aI 1, aR 12 0 0]) (σ' := σ17) (g := []) (by decide +kernel) rfl rfl ?_
      obtain ⟨σ20, h19, h⟩ := bndV_some h
      refine aw_cV (P' := pX12_settle) (idx := 187) (d' := 2) (c := 12) (n := 0) (k := 0) [aI 1] [] (ov := none) (stk2 := []) okp_X12_settle (by decide +kernel) ml_RX12_187 vok_X12_settle (by decide) rfl nar_X12_settle (by decide) rfl (Nat.le_of_ble_eq_true rfl) (ok_X12_settle h19) rfl ?_
      refine aw_seq [(.aload_n 0, 1, ax0)] (pc' := 65) (L' := [some (aR 12 0 0), some (aI r12), some (aI r15), some (aI r18)]) (stk' := [aR 12 0 0]) (σ' := σ20) (g := []) (by decide +kernel) rfl rfl ?_
      obtain ⟨σ22, h21, h⟩ := bndV_some h
      refine aw_cV (P' := pX12_nextToken) (idx := 175) (d' := 2) (c := 12) (n := 0) (k := 0) [] [] (ov := none) (stk2 := []) okp_X12_nextToken (by decide +kernel) ml_RX12_175 vok_X12_nextToken (by decide) rfl nar_X12_nextToken (by decide) rfl (Nat.le_of_ble_eq_true rfl) (ok_X12_nextToken h21) rfl ?_
      refine aw_seq [(.iload_n 3, 1, ax0)] (pc' := 69) (L' := [some (aR 12 0 0), some (aI r12), some (aI r15), some (aI r18)]) (stk' := [aI r18]) (σ' := σ22) (g := []) (by decide +kernel) rfl rfl ?_
      refine aw_if_le (off := 20) (tgt := 89) (by decide +kernel) (by decide) (fun c1 => ?_) (fun c1 => ?_)
      · rw [if_pos c1] at h
        obtain ⟨σ23, e24, h⟩ := ltσ_some h
        refine aw_seq [(.aload_n 0, 1, ax0), (.dup, 1, ax0), (.getfield 162, 3, (axF 12 17 (0, 0, 0, none))), (.iconst 1, 1, (axI 1)), (.isub, 1, ax0), (.putfield 162, 3, (axF 12 17 (0, 0, 0, none)))] (pc' := 99) (L' := [some (aR 12 0 0), some (aI r12), some (aI r15), some (aI r18)]) (stk' := []) (σ' := σ23) (g := []) (by decide +kernel) (by rw [e24]; rfl) rfl ?_
        obtain ⟨σ25, e26, h⟩ := ltσ_some h
        refine aw_seq [(.aload_n 0, 1, ax0), (.dup, 1, ax0), (.getfield 152, 3, (axF 12 16 (0, 0, 0, none))), (.iconst 1, 1, (axI 1)), (.isub, 1, ax0), (.putfield 152, 3, (axF 12 16 (0, 0, 0, none)))] (pc' := 109) (L' := [some (aR 12 0 0), some (aI r12), some (aI r15), some (aI r18)]) (stk' := []) (σ' := σ25) (g := []) (by decide +kernel) (by rw [e26]; rfl) rfl ?_
        refine aw_seq [(.iload_n 2, 1, ax0), (.bipush 43, 2, (axI 43))] (pc' := 112) (L' := [some (aR 12 0 0), some (aI r12), some (aI r15), some (aI r18)]) (stk' := [aI 43, aI r15]) (σ' := σ25) (g := []) (by decide +kernel) rfl rfl ?_
        refine aw_icmp_ne (off := 9) (tgt := 121) (by decide +kernel) (by decide) (fun c1 => ?_) (fun c1 => ?_)
        · rw [if_neg c1] at h
          refine aw_forget (L' := [some (aR 12 0 0), none, none, none]) (lsub_s (lsub_n (lsub_n (lsub_n (lsub_0))))) ?_
          exact ok_X12_behindOne_121 σ25 _ h
        · rw [if_pos c1] at h
          refine aw_seq [(.aload_n 0, 1, ax0), (.iconst 3, 1, (axI 3)), (.iconst 0, 1, (axI 0))] (pc' := 118) (L' := [some (aR 12 0 0), some (aI r12), some (aI r15), some (aI r18)]) (stk' := [aI 0, aI 3, aR 12 0 0]) (σ' := σ25) (g := []) (by decide +kernel) rfl rfl ?_
          obtain ⟨σ28, h27, h⟩ := bndV_some h
          refine aw_cV (P' := pX12_emit) (idx := 158) (d' := 1) (c := 12) (n := 0) (k := 0) [aI 3, aI 0] [] (ov := none) (stk2 := []) okp_X12_emit (by decide +kernel) ml_RX12_158 vok_X12_emit (by decide) rfl nar_X12_emit (by decide) rfl (Nat.le_of_ble_eq_true rfl) (ok_X12_emit h27) rfl ?_
          refine aw_forget (L' := [some (aR 12 0 0), none, none, none]) (lsub_s (lsub_n (lsub_n (lsub_n (lsub_0))))) ?_
          exact ok_X12_behindOne_121 σ28 _ h
      · rw [if_neg c1] at h
        refine aw_seq [(.aload_n 0, 1, ax0), (.getfield 29, 3, (axF 12 15 (2, 5, 13, some 160))), (.aload_n 0, 1, ax0)] (pc' := 77) (L' := [some (aR 12 0 0), some (aI r12), some (aI r15), some (aI r18)]) (stk' := [aR 12 0 0, aR 13 160 5]) (σ' := σ22) (g := []) (by decide +kernel) rfl rfl ?_
        obtain ⟨r31, σ30, h29, h⟩ := bnd_some h
        refine aw_cV (P' := pX12_openAt) (idx := 165) (d' := 1) (c := 12) (n := 0) (k := 0) [] [aR 13 160 5] (ov := (some (aI r31))) (stk2 := [aI r31, aR 13 160 5]) okp_X12_openAt (by decide +kernel) ml_RX12_165 vok_X12_openAt (by decide) rfl nar_X12_openAt (by decide) rfl (Nat.le_of_ble_eq_true rfl) (ok_X12_openAt h29) rfl ?_
        obtain ⟨hg, h⟩ := grd_some h
        obtain ⟨σ32, e33, h⟩ := ltσ_some h
        refine aw_seq [(.iload_n 3, 1, ax0), (.iastore, 1, ax0)] (pc' := 82) (L' := [some (aR 12 0 0), some (aI r12), some (aI r15), some (aI r18)]) (stk' := []) (σ' := σ32) (g := [inb r31 160]) (by decide +kernel) (by rw [e33]; rfl) hg ?_
        obtain ⟨hg, h⟩ := grd_some h
        obtain ⟨σ34, e35, h⟩ := ltσ_some h
        refine aw_seq [(.aload_n 0, 1, ax0), (.iconst 0, 1, (axI 0)), (.putfield 184, 3, (axF 12 18 (3, 0, 0, none)))] (pc' := 87) (L' := [some (aR 12 0 0), some (aI r12), some (aI r15), some (aI r18)]) (stk' := []) (σ' := σ34) (g := [bz 0]) (by decide +kernel) (by rw [e35]; rfl) hg ?_
        refine aw_seq [(.iconst 1, 1, (axI 1))] (pc' := 88) (L' := [some (aR 12 0 0), some (aI r12), some (aI r15), some (aI r18)]) (stk' := [aI 1]) (σ' := σ34) (g := []) (by decide +kernel) rfl rfl ?_
        cases h
        exact aw_zret rfl bz_1 (by decide +kernel)
    · rw [if_neg c1] at h
      refine aw_seq [(.iconst 0, 1, (axI 0))] (pc' := 58) (L' := [some (aR 12 0 0), some (aI r12), some (aI r15), some (aI r18)]) (stk' := [aI 0]) (σ' := σ17) (g := []) (by decide +kernel) rfl rfl ?_
      cases h
      exact aw_zret rfl bz_0 (by decide +kernel)
  · rw [if_neg c1] at h
    refine aw_seq [(.aload_n 0, 1, ax0), (.iload_n 1, 1, ax0)] (pc' := 11) (L' := [some (aR 12 0 0), some (aI r12), none, none]) (stk' := [aI r12, aR 12 0 0]) (σ' := σ11) (g := []) (by decide +kernel) rfl rfl ?_
    obtain ⟨r38, σ37, h36, h⟩ := bnd_some h
    refine aw_cS (P' := pX12_rank) (idx := 155) (d' := 1) [aI r12] [aR 12 0 0] (ov := (some (aI r38))) (stk2 := [aI r38, aR 12 0 0]) okp_X12_rank (by decide +kernel) ml_RX12_155 tok_X12_rank nar_X12_rank (by decide) rfl (Nat.le_of_ble_eq_true rfl) (ok_X12_rank h36) rfl ?_
    refine aw_seq [(.iconst 4, 1, (axI 4))] (pc' := 15) (L' := [some (aR 12 0 0), some (aI r12), none, none]) (stk' := [aI 4, aI r38, aR 12 0 0]) (σ' := σ37) (g := []) (by decide +kernel) rfl rfl ?_
    refine aw_icmp_ne (off := 7) (tgt := 22) (by decide +kernel) (by decide) (fun c1 => ?_) (fun c1 => ?_)
    · rw [if_neg c1] at h
      refine aw_seq [(.iload_n 1, 1, ax0)] (pc' := 23) (L' := [some (aR 12 0 0), some (aI r12), none, none]) (stk' := [aI r12, aR 12 0 0]) (σ' := σ37) (g := []) (by decide +kernel) rfl rfl ?_
      obtain ⟨r41, σ40, h39, h⟩ := bnd_some h
      refine aw_cS (P' := pX12_rank) (idx := 155) (d' := 1) [aI r12] [aR 12 0 0] (ov := (some (aI r41))) (stk2 := [aI r41, aR 12 0 0]) okp_X12_rank (by decide +kernel) ml_RX12_155 tok_X12_rank nar_X12_rank (by decide) rfl (Nat.le_of_ble_eq_true rfl) (ok_X12_rank h39) rfl ?_
      refine aw_forget (L' := [some (aR 12 0 0), some (aI r12), none, none]) (lsub_s (lsub_s (lsub_n (lsub_n (lsub_0))))) ?_
      exact ok_X12_behindOne_26 r12 r41 σ40 _ h
    · rw [if_pos c1] at h
      refine aw_seq [(.iconst 5, 1, (axI 5))] (pc' := 19) (L' := [some (aR 12 0 0), some (aI r12), none, none]) (stk' := [aI 5, aR 12 0 0]) (σ' := σ37) (g := []) (by decide +kernel) rfl rfl ?_
      refine aw_goto (off := 7) (tgt := 26) (by decide +kernel) (by decide) ?_
      refine aw_forget (L' := [some (aR 12 0 0), some (aI r12), none, none]) (lsub_s (lsub_s (lsub_n (lsub_n (lsub_0))))) ?_
      exact ok_X12_behindOne_26 r12 5 σ37 _ h
