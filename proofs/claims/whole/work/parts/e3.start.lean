/-! the start: what the tables and the Statement give (printed by wip/whole/gen_start.py) -/
theorem tbm_1 {i : Nat} {w : Cond} (h : tables_1_1[i]? = some w) : w ∈ lw_tbl := List.mem_append_right _ (by unfold tables_1; exact List.mem_append_left _ (List.mem_of_getElem? h))
theorem tbm_2 {i : Nat} {w : Cond} (h : tables_1_2[i]? = some w) : w ∈ lw_tbl := List.mem_append_right _ (by unfold tables_1; exact List.mem_append_right _ (List.mem_append_left _ (List.mem_of_getElem? h)))
theorem tbm_3 {i : Nat} {w : Cond} (h : tables_1_3[i]? = some w) : w ∈ lw_tbl := List.mem_append_right _ (by unfold tables_1; exact List.mem_append_right _ (List.mem_append_right _ (List.mem_append_left _ (List.mem_of_getElem? h))))
theorem tbm_4 {i : Nat} {w : Cond} (h : tables_1_4[i]? = some w) : w ∈ lw_tbl := List.mem_append_right _ (by unfold tables_1; exact List.mem_append_right _ (List.mem_append_right _ (List.mem_append_right _ (List.mem_append_left _ (List.mem_of_getElem? h)))))
theorem tbm_5 {i : Nat} {w : Cond} (h : tables_1_5[i]? = some w) : w ∈ lw_tbl := List.mem_append_right _ (by unfold tables_1; exact List.mem_append_right _ (List.mem_append_right _ (List.mem_append_right _ (List.mem_append_right _ (List.mem_append_left _ (List.mem_of_getElem? h))))))
theorem tbm_6 {i : Nat} {w : Cond} (h : tables_1_6[i]? = some w) : w ∈ lw_tbl := List.mem_append_right _ (by unfold tables_1; exact List.mem_append_right _ (List.mem_append_right _ (List.mem_append_right _ (List.mem_append_right _ (List.mem_append_right _ (List.mem_append_left _ (List.mem_of_getElem? h)))))))
theorem tbm_7 {i : Nat} {w : Cond} (h : tables_1_7[i]? = some w) : w ∈ lw_tbl := List.mem_append_right _ (by unfold tables_1; exact List.mem_append_right _ (List.mem_append_right _ (List.mem_append_right _ (List.mem_append_right _ (List.mem_append_right _ (List.mem_append_right _ (List.mem_append_left _ (List.mem_of_getElem? h))))))))
theorem tbm_8 {i : Nat} {w : Cond} (h : tables_1_8[i]? = some w) : w ∈ lw_tbl := List.mem_append_right _ (by unfold tables_1; exact List.mem_append_right _ (List.mem_append_right _ (List.mem_append_right _ (List.mem_append_right _ (List.mem_append_right _ (List.mem_append_right _ (List.mem_append_right _ (List.mem_of_getElem? h))))))))
section STA
variable {args : Array Value} {s : State}
theorem st_nestW (hts : ∀ w ∈ lw_tbl, w.before args s = true) : ∀ q ∈ nestW, va_Nw (.methodLinkNest q.1 q.2.1 q.2.2 "CoverFires") s := List.forall_mem_cons.mpr ⟨va_Nw.of rfl (hts _ (tbm_2 (i := 144) rfl)), List.forall_mem_cons.mpr ⟨va_Nw.of rfl (hts _ (tbm_2 (i := 198) rfl)), List.forall_mem_cons.mpr ⟨va_Nw.of rfl (hts _ (tbm_3 (i := 129) rfl)), List.forall_mem_cons.mpr ⟨va_Nw.of rfl (hts _ (tbm_4 (i := 59) rfl)), (fun _ h => absurd h List.not_mem_nil)⟩⟩⟩⟩
theorem st_CO (hts : ∀ w ∈ lw_tbl, w.before args s = true) : CO s := ⟨va_AO.of (hts (.arrayOver (.object RX6)) (tbm_1 (i := 129) rfl)), List.forall_mem_cons.mpr ⟨va_Nw.of rfl (hts _ (tbm_1 (i := 34) rfl)), List.forall_mem_cons.mpr ⟨va_Nw.of rfl (hts _ (tbm_1 (i := 40) rfl)), List.forall_mem_cons.mpr ⟨va_Nw.of rfl (hts _ (tbm_1 (i := 96) rfl)), List.forall_mem_cons.mpr ⟨va_Nw.of rfl (hts _ (tbm_1 (i := 113) rfl)), List.forall_mem_cons.mpr ⟨va_Nw.of rfl (hts _ (tbm_1 (i := 197) rfl)), List.forall_mem_cons.mpr ⟨va_Nw.of rfl (hts _ (tbm_1 (i := 200) rfl)), List.forall_mem_cons.mpr ⟨va_Nw.of rfl (hts _ (tbm_1 (i := 213) rfl)), List.forall_mem_cons.mpr ⟨va_Nw.of rfl (hts _ (tbm_1 (i := 219) rfl)), List.forall_mem_cons.mpr ⟨va_Nw.of rfl (hts _ (tbm_2 (i := 41) rfl)), List.forall_mem_cons.mpr ⟨va_Nw.of rfl (hts _ (tbm_2 (i := 54) rfl)), List.forall_mem_cons.mpr ⟨va_Nw.of rfl (hts _ (tbm_2 (i := 84) rfl)), (fun _ h => absurd h List.not_mem_nil)⟩⟩⟩⟩⟩⟩⟩⟩⟩⟩⟩⟩
theorem st_CLO (hts : ∀ w ∈ lw_tbl, w.before args s = true) : CLO s := va_Nw.of rfl (hts (.castable "[I" "java/lang/Cloneable") (tbm_3 (i := 188) rfl))
theorem arr_at {ty : FieldType} (h : (Cond.arrayClass ty).before args s = true) : ∃ cA : ClassId, ArrOfT s cA ty ∧ s.vm.findClass ("[" ++ ty.toString) = some cA := by
  obtain ⟨cA, kA, comp, h1, h2, h3⟩ := Cond.arrayClass_spec h
  exact ⟨cA, fun n z => ⟨fun k h => (by cases h), kA, h2, comp, h3⟩, h1⟩
theorem arr_over {C : String} (h : va_AO C s) : ∃ cA : ClassId, ArrOfT s cA (.object C) ∧ va_RA s cA (.object C) := by
  obtain ⟨comp, cA, kA, f1, f2, f3, f4, f5⟩ := Cond.arrayOver_spec h
  exact ⟨cA, fun N z => ⟨(fun k h => by cases h), kA, f3, comp, f4⟩, kA, comp, f3, f4, f1, f5⟩
theorem st_ids (hts : ∀ w ∈ lw_tbl, w.before args s = true) : ∃ (D : va_G) (ids : Ids), va_K D acl (atys ids) s := by
  have hW : ∀ w ∈ WS, w.before args s = true := fun w hw => hts w (List.mem_filter.mp hw).1
  obtain ⟨c1, h1, g1⟩ := arr_at (hW (.arrayClass .int) (wsm_1 (i := 93) rfl rfl))
  obtain ⟨c2, h2, g2⟩ := arr_at (hW (.arrayClass .long) (wsm_2 (i := 101) rfl rfl))
  obtain ⟨c3, h3, g3⟩ := arr_at (hW (.arrayClass .boolean) (wsm_1 (i := 195) rfl rfl))
  obtain ⟨c4, h4, g4⟩ := arr_over (st_CO hts).1
  obtain ⟨k0, i0, n0⟩ := u_known (C := RX0) (T := TX0) (N := 7) (n := 7) hW uws_0 (hW (.instantiable RX0 7) (wsm_2 (i := 53) rfl rfl))
  obtain ⟨k1, i1, n1⟩ := u_known (C := RX1) (T := TX1) (N := 2) (n := 2) hW uws_1 (hW (.instantiable RX1 2) (wsm_1 (i := 199) rfl rfl))
  obtain ⟨k2, i2, n2⟩ := u_known (C := RX2) (T := TX2) (N := 4) (n := 4) hW uws_2 (hW (.instantiable RX2 4) (wsm_2 (i := 83) rfl rfl))
  obtain ⟨k3, i3, n3⟩ := u_known (C := RX3) (T := TX3) (N := 13) (n := 13) hW uws_3 (hW (.instantiable RX3 13) (wsm_1 (i := 212) rfl rfl))
  obtain ⟨k4, i4, n4⟩ := u_known (C := RX4) (T := TX4) (N := 3) (n := 3) hW uws_4 (hW (.instantiable RX4 3) (wsm_1 (i := 112) rfl rfl))
  obtain ⟨k5, i5, n5⟩ := u_known (C := RX5) (T := TX5) (N := 2) (n := 2) hW uws_5 (hW (.instantiable RX5 2) (wsm_1 (i := 95) rfl rfl))
  obtain ⟨k6, i6, n6⟩ := u_known (C := RX6) (T := TX6) (N := 5) (n := 5) hW uws_6 (hW (.instantiable RX6 5) (wsm_3 (i := 179) rfl rfl))
  obtain ⟨k7, i7, n7⟩ := u_known (C := RX7) (T := TX7) (N := 4) (n := 4) hW uws_7 (hW (.instantiable RX7 4) (wsm_1 (i := 218) rfl rfl))
  obtain ⟨k8, i8, n8⟩ := u_known (C := RX8) (T := TX8) (N := 10) (n := 10) hW uws_8 (hW (.instantiable RX8 10) (wsm_1 (i := 39) rfl rfl))
  obtain ⟨k9, i9, n9⟩ := u_known (C := RX9) (T := TX9) (N := 2) (n := 2) hW uws_9 (hW (.instantiable RX9 2) (wsm_2 (i := 40) rfl rfl))
  obtain ⟨k10, i10, n10⟩ := u_known (C := RX10) (T := TX10) (N := 15) (n := 15) hW uws_10 (hW (.instantiable RX10 15) (wsm_1 (i := 33) rfl rfl))
  obtain ⟨k11, i11, n11⟩ := u_known (C := RX11) (T := TX11) (N := 11) (n := 11) hW uws_11 (hW (.instantiable RX11 11) (wsm_1 (i := 25) rfl rfl))
  obtain ⟨k12, i12, n12⟩ := u_known (C := RX12) (T := TX12) (N := 32) (n := 32) hW uws_12 (hW (.instantiable RX12 32) (wsm_6 (i := 25) rfl rfl))
  refine ⟨(fun k => match k with
    | 0 => k0
    | 1 => k1
    | 2 => k2
    | 3 => k3
    | 4 => k4
    | 5 => k5
    | 6 => k6
    | 7 => k7
    | 8 => k8
    | 9 => k9
    | 10 => k10
    | 11 => k11
    | _ => k12, fun k => match k with
    | 0 => i0
    | 1 => i1
    | 2 => i2
    | 3 => i3
    | 4 => i4
    | 5 => i5
    | 6 => i6
    | 7 => i7
    | 8 => i8
    | 9 => i9
    | 10 => i10
    | 11 => i11
    | _ => i12), (c1, c2, c3, c4), fun k q hq => ?_, fun k q hq => ?_⟩
  · match k, hq with
    | 0, hq => cases hq; exact n0
    | 1, hq => cases hq; exact n1
    | 2, hq => cases hq; exact n2
    | 3, hq => cases hq; exact n3
    | 4, hq => cases hq; exact n4
    | 5, hq => cases hq; exact n5
    | 6, hq => cases hq; exact n6
    | 7, hq => cases hq; exact n7
    | 8, hq => cases hq; exact n8
    | 9, hq => cases hq; exact n9
    | 10, hq => cases hq; exact n10
    | 11, hq => cases hq; exact n11
    | 12, hq => cases hq; exact n12
    | k + 13, hq => simp [acl] at hq
  · match k, hq with
    | 0, hq => cases hq; exact ⟨h1, g1⟩
    | 1, hq => cases hq; exact ⟨h2, g2⟩
    | 2, hq => cases hq; exact ⟨h3, g3⟩
    | 3, hq => cases hq; exact ⟨h4, g4⟩
    | k + 4, hq => simp [atys] at hq
abbrev NARR : List Cond := flatC (Jvm.Cond.and given_1 narrow_1)
abbrev tmS (i : Nat) : Term := .string RX7 (ixS.getD i 0)
abbrev bsS : List Nat := [9, 77, 146, 216, 271, 311]
set_option maxRecDepth 100000 in
set_option maxHeartbeats 4000000 in
theorem st_ex : ∀ i, i < 6 → NARR[bsS.getD i 0]? = some (Cond.exactly (tmS i) "java/lang/String") ∧ NARR[bsS.getD i 0 + 1]? = some (Cond.eq (.field (tmS i) "java/lang/String" "coder" "B") (.int 0)) ∧ NARR[bsS.getD i 0 + 2]? = some (Cond.arrayOf (.field (tmS i) "java/lang/String" "value" "[B") .byte) ∧ NARR[bsS.getD i 0 + 3]? = some (Cond.eq (.length (.field (tmS i) "java/lang/String" "value" "[B")) (.int (Int32.ofNat (lenS.getD i 0)))) := by decide +kernel
set_option maxRecDepth 100000 in
set_option maxHeartbeats 4000000 in
theorem st_el0 : ∀ j, j < 64 → NARR[13 + j]? = some (Cond.eq (.elem (.field (tmS 0) "java/lang/String" "value" "[B") (.int (Int32.ofNat j))) (.int ((bytS.getD 0 []).getD j 0))) := by decide +kernel
set_option maxRecDepth 100000 in
set_option maxHeartbeats 4000000 in
theorem st_el1 : ∀ j, j < 64 → NARR[81 + j]? = some (Cond.eq (.elem (.field (tmS 1) "java/lang/String" "value" "[B") (.int (Int32.ofNat j))) (.int ((bytS.getD 1 []).getD j 0))) := by decide +kernel
set_option maxRecDepth 100000 in
set_option maxHeartbeats 4000000 in
theorem st_el2 : ∀ j, j < 64 → NARR[150 + j]? = some (Cond.eq (.elem (.field (tmS 2) "java/lang/String" "value" "[B") (.int (Int32.ofNat j))) (.int ((bytS.getD 2 []).getD j 0))) := by decide +kernel
set_option maxRecDepth 100000 in
set_option maxHeartbeats 4000000 in
theorem st_el3 : ∀ j, j < 48 → NARR[220 + j]? = some (Cond.eq (.elem (.field (tmS 3) "java/lang/String" "value" "[B") (.int (Int32.ofNat j))) (.int ((bytS.getD 3 []).getD j 0))) := by decide +kernel
set_option maxRecDepth 100000 in
set_option maxHeartbeats 4000000 in
theorem st_el4 : ∀ j, j < 32 → NARR[275 + j]? = some (Cond.eq (.elem (.field (tmS 4) "java/lang/String" "value" "[B") (.int (Int32.ofNat j))) (.int ((bytS.getD 4 []).getD j 0))) := by decide +kernel
set_option maxRecDepth 100000 in
set_option maxHeartbeats 4000000 in
theorem st_el5 : ∀ j, j < 13 → NARR[315 + j]? = some (Cond.eq (.elem (.field (tmS 5) "java/lang/String" "value" "[B") (.int (Int32.ofNat j))) (.int ((bytS.getD 5 []).getD j 0))) := by decide +kernel
set_option maxRecDepth 100000 in
set_option maxHeartbeats 4000000 in
theorem st_ne : ∀ j, j < 6 → ∀ i, i < j → NARR[bsS.getD j 0 + 4 + lenS.getD j 0 + i]? = some (Cond.not (Cond.eq (tmS i) (tmS j))) := by decide +kernel
theorem st_XK (hts : ∀ w ∈ lw_tbl, w.before args s = true) (hg : (Jvm.Cond.and given_1 narrow_1).before args s = true) {A : Nat → Prop} (hA : ∀ a : Nat, a < s.heap.size → ¬ A a) : ∃ ad : Nat → Nat, XK ad A s s.heap := by
  have hs := flat_of_before _ hg
  have nm : ∀ {k : Nat} {w : Cond}, NARR[k]? = some w → w.before args s = true := fun h => hs _ (List.mem_of_getElem? h)
  obtain ⟨adK, adV, h1, h2⟩ := vk_Sof (N := 6) (tm := tmS) (len := lenS) (byt := bytS) (A := A) (args := args) (s := s) (by decide +kernel) (fun i hi => nm (st_ex i hi).1) (fun i hi => nm (st_ex i hi).2.1) (fun i hi => nm (st_ex i hi).2.2.1) (fun i hi => nm (st_ex i hi).2.2.2) (fun i hi j hj => by
    have cs : i = 0 ∨ i = 1 ∨ i = 2 ∨ i = 3 ∨ i = 4 ∨ i = 5 := by omega
    rcases cs with rfl | rfl | rfl | rfl | rfl | rfl
    · exact nm (st_el0 j hj)
    · exact nm (st_el1 j hj)
    · exact nm (st_el2 j hj)
    · exact nm (st_el3 j hj)
    · exact nm (st_el4 j hj)
    · exact nm (st_el5 j hj)) (fun i j hi hj h => by
    by_cases y : i < j
    · exact Or.inl (nm (st_ne j hj i y))
    · exact Or.inr (nm (st_ne i hi j (by omega)))) hA
  have c1 : (Cond.eq (.static "java/lang/String" "COMPACT_STRINGS" "Z") (.int 1)).before args s = true := nm (k := 4) rfl
  have c2 : (Cond.isRef (.static "jdk/internal/util/Preconditions" "SIOOBE_FORMATTER" "Ljava/util/function/BiFunction;")).before args s = true := nm (k := 5) rfl
  have hW : ∀ w ∈ WS, w.before args s = true := fun w hw => hts w (List.mem_filter.mp hw).1
  have z1 := va_Zof (A := A) (hts (.laysStatic "java/lang/String" "COMPACT_STRINGS" "Z") (tbm_2 (i := 215) rfl)) (hW (.initialized "java/lang/String") (wsm_1 (i := 14) rfl rfl)) (va_eqi c1) hA
  have zq := va_Zqof (A := A) (hts (.laysStatic "jdk/internal/util/Preconditions" "SIOOBE_FORMATTER" "Ljava/util/function/BiFunction;") (tbm_2 (i := 234) rfl)) (hW (.initialized "jdk/internal/util/Preconditions") (wsm_1 (i := 16) rfl rfl)) c2 hA
  obtain ⟨f, hf⟩ : ∃ f : Nat, va_Z "jdk/internal/util/Preconditions" "SIOOBE_FORMATTER" "Ljava/util/function/BiFunction;" .null A s s.heap ∨ va_Z "jdk/internal/util/Preconditions" "SIOOBE_FORMATTER" "Ljava/util/function/BiFunction;" (.ref f) A s s.heap := by
    rcases zq with z | ⟨t, z⟩
    · exact ⟨0, Or.inl z⟩
    · exact ⟨t, Or.inr z⟩
  obtain ⟨ad, hd⟩ : ∃ ad : Nat → Nat, ad = fun k => if 3000000 ≤ k then f else if 2000000 ≤ k then adV (k - 2000000) else adK (k - 1000000) := ⟨_, rfl⟩
  have eK : ∀ i, i < 6 → ad (SB + i) = adK i := fun i hi => by
    rw [hd]
    show (if 3000000 ≤ 1000000 + i then f else if 2000000 ≤ 1000000 + i then adV (1000000 + i - 2000000) else adK (1000000 + i - 1000000)) = adK i
    rw [if_neg (by omega), if_neg (by omega), Nat.add_sub_cancel_left]
  have eV : ∀ i, i < 6 → ad (SV + i) = adV i := fun i hi => by
    rw [hd]
    show (if 3000000 ≤ 2000000 + i then f else if 2000000 ≤ 2000000 + i then adV (2000000 + i - 2000000) else adK (2000000 + i - 1000000)) = adV i
    rw [if_neg (by omega), if_pos (by omega), Nat.add_sub_cancel_left]
  have eF : ad SF = f := by
    rw [hd]
    exact if_pos (show 3000000 ≤ SF from Nat.le_refl _)
  refine ⟨ad, st_nestW hts, ⟨fun i hi => ?_, fun i j hi hj h => ?_⟩, fun j hj => ?_, z1, by rw [eF]; exact hf⟩
  · show va_O "java/lang/String" (ad (SB + i)) A s s.heap ∧ va_OF "java/lang/String" "coder" "B" (.int 0) (ad (SB + i)) A s s.heap ∧ va_OF "java/lang/String" "value" "[B" (.ref (ad (SV + i))) (ad (SB + i)) A s s.heap ∧ va_T .byte (ad (SV + i)) (lenS.getD i 0) (fun j => .int ((bytS.getD i []).getD j 0)) A s s.heap
    rw [eK i hi, eV i hi]
    exact h1.1 i hi
  · have h' : ad (SB + i) = ad (SB + j) := h
    rw [eK i hi, eK j hj] at h'
    exact h1.2 i j hi hj h'
  · rw [eK j hj]
    have cs : j = 0 ∨ j = 1 ∨ j = 2 ∨ j = 3 ∨ j = 4 ∨ j = 5 := by omega
    rcases cs with rfl | rfl | rfl | rfl | rfl | rfl
    · exact vk_R.of (A := args) (hts (.stringRef "CoverFires$Tokens" 64 "cools   spreads fine    house   street  light   cover   open    ") (tbm_2 (i := 202) rfl)) (h2 0 (by decide))
    · exact vk_R.of (A := args) (hts (.stringRef "CoverFires$Tokens" 70 "fetch   quench  warden  hour    bell    wind    who     wood    ") (tbm_3 (i := 17) rfl)) (h2 1 (by decide))
    · exact vk_R.of (A := args) (hts (.stringRef "CoverFires$Tokens" 72 "fire    heat    near    purse   coins   to      of      from    ") (tbm_3 (i := 18) rfl)) (h2 2 (by decide))
    · exact vk_R.of (A := args) (hts (.stringRef "CoverFires$Tokens" 74 "if      then    else    end     and     or      ") (tbm_3 (i := 19) rfl)) (h2 3 (by decide))
    · exact vk_R.of (A := args) (hts (.stringRef "CoverFires$Tokens" 76 "warm    not     odd     even    ") (tbm_3 (i := 20) rfl)) (h2 4 (by decide))
    · exact vk_R.of (A := args) (hts (.stringRef "CoverFires$Tokens" 57 "< > =#+-*/();") (tbm_3 (i := 31) rfl)) (h2 5 (by decide))
end STA
