/-! Reader.read: its two ends -/
def RPre (D : va_G) (ids : Ids) (ad : Nat → Nat) (κ : Kd) (σ : Sg) (sz : Nat) (U : State) : Prop := U.heap.size = sz ∧ va_P D acl (aW ids ad κ σ) U.heap ∧ va_K D acl (atys ids) U ∧ va_D (fun _ => True) (aW ids ad κ σ) ∧ XK ad (va_A (aW ids ad κ σ) sz) U U.heap ∧ CLO U
theorem RPre.blind {D : va_G} {ids : Ids} {ad : Nat → Nat} {κ : Kd} {σ : Sg} {sz : Nat} {av : List Value} : FrameBlind (va_Pc av (RPre D ids ad κ σ sz)) := fun a U g mk q => by
  obtain ⟨q0, q1, qP, qK, qD, qX, qC⟩ := q
  exact ⟨q0, q1, qP, va_K.moved (u := U) (U := U.calling g mk a) (Vm.Alike.refl U.vm) qK, qD, XK.same (U := U.calling g mk a) qX rfl, qC.same rfl rfl⟩
/-- the new cells -/
def nW (ids : Ids) (r q1 q2 q3 q4 q5 : Nat) (σ : Sg) (n s : Nat) : va_W := [(r, .inr (6, [.ref q1, .ref q2, .ref q3, .ref q4, .ref q5])), (q1, .inl (ids.1, 4 * n, .inl (σ.1 54))), (q2, .inl (ids.1, s, .inl (σ.1 55))), (q3, .inl (ids.1, s, .inl (σ.1 56))), (q4, .inl (ids.1, 3, .inl (σ.1 57))), (q5, .inl (ids.1, 3, .inl (σ.1 58)))]
set_option maxHeartbeats 8000000 in
set_option maxRecDepth 100000 in
theorem ct_read_null (l : Launch) (D : va_G) (ids : Ids) (ad : Nat → Nat) (κ : Kd) (σ a b σ9 : Sg) (L : Int32) (sz : Nat) (hR : Reg κ) (hok : okσ κ σ) (k49 : κ[49]? = some (3, 0)) (k50 : κ[50]? = some (7, 0)) (k70 : κ[70]? = some (13, 300)) (hf : ¬ σ9.1 49 1 = 0) (h1 : f_X3_begin σ = some a) (h2 : f_X7_cut L a = some b) (h3 : xloop 25 b = some σ9) : Met l yX3_read (.code yX3_read cX3_read 4 (some (.object "CoverFires$Text")) :: WS) rmR (va_Pc [.ref (ad 49), .ref (ad 70), .int L] (RPre D ids ad κ σ sz)) (fun _ st oc t => (oc = .returned (some .null) ∧ va_P D acl (aW ids ad κ σ9) t.heap) ∧ va_F (va_A (aW ids ad κ σ) sz) st t) 6 720 (va_A (aW ids ad κ σ) sz) := by
  refine Met.ofW (cc := cX3_read) (maxL := 4) (ret := some (.object "CoverFires$Text")) (by decide) rfl ?_
  intro p e s m args below meth c s₁ B hml hv
  obtain ⟨rfl, hsz, hW, hK, hD0, hX0, hC⟩ := hv
  have hx := B.exec
  have hb := B.bytes
  have hr := B.returns
  have hts := atoms_spec (ws := .code yX3_read cX3_read 4 (some (.object "CoverFires$Text")) :: WS) B.pre
  have hown : s.vm.findClass RX3 = some m.cls := findClass_of_methodNamed B.named
  have hlocks := B.notSynchronized
  subst hsz
  have hD := hD0.self (sz := s.heap.size)
  have hA0 : ∀ q : Nat, s.heap.size ≤ q → va_A (aW ids ad κ σ) s.heap.size q := fun q h => Or.inr h
  generalize hAe : va_A (aW ids ad κ σ) s.heap.size = A at hD hX0 hA0 ⊢
  have hl := lv_entry ([.ref (ad 49), .ref (ad 70), .int L]) (n := 4) (Nat.le_of_ble_eq_true rfl)
  rw [lg_entry_eq]
  generalize (lg_sl ([.ref (ad 49), .ref (ad 70), .int L]) ++ List.replicate (4 - (lg_sl ([.ref (ad 49), .ref (ad 70), .int L])).length) Slot.unset).toArray = ls at hl ⊢
  have hl : lv_has ls 4 [(0, .ref (ad 49)), (1, .ref (ad 70)), (2, .int L)] := hl
  refine W.widen (k := 0) (n := 0) (Nat.le_refl _) (Nat.le_refl _) ?_
  refine rd_pre hx hb hml hown hts hK hR k49 k50 k70 hA0 hX0 (fun H locs ls hok hW hD hS hl => ?_) h1 h2 h3 hok hW hD va_S.rf hl
  refine lv_aload_n hx hb (show decode cX3_read 47 = .ok (.aload_n 0, 1) by decide +kernel) rfl (lv_at hl 0 rfl) ?_
  refine gw_get (c0 := 3) (n := 0) (j := 1) (k := 49) (q0 := 49) (f := (0, 0, 0, none)) (σ := σ9) hx hb hts hown hK hW (aW_get k49) (by decide) rfl (by decide) (wsm_1 (i := 238) rfl rfl) (show decode cX3_read 48 = .ok (.getfield 54, 3) by decide +kernel) ?_
  show W p l e rmR s m _ below meth c H locs _ _ _ (F0 m 51 ls [.int (σ9.1 49 1)])
  refine lv_if_eq (tgt := 56) hx hb (show decode cX3_read 51 = .ok (.ifCond .eq 5, 3) by decide +kernel) (by decide) (fun z => absurd z hf) (fun _ => ?_)
  refine lv_null hx hb (show decode cX3_read 54 = .ok (.aconst_null, 1) by decide +kernel) ?_
  refine W.widen (k := 6) (n := 720) (Nat.zero_le _) (Nat.zero_le _) ?_
  exact W.aret hx hb hr (Or.inl ⟨_, rfl⟩) (Or.inl rfl) (fun t ht hWm => ⟨⟨rfl, by rw [ht]; exact hW⟩, hS.F ht⟩) hS.2.2 (show decode cX3_read 55 = .ok (.areturn, 1) by decide +kernel)
set_option maxHeartbeats 8000000 in
set_option maxRecDepth 100000 in
theorem ct_read_new (l : Launch) (D : va_G) (ids : Ids) (ad : Nat → Nat) (κ : Kd) (σ a b σ9 : Sg) (L : Int32) (sz : Nat) (hR : Reg κ) (hok : okσ κ σ) (k49 : κ[49]? = some (3, 0)) (k50 : κ[50]? = some (7, 0)) (k70 : κ[70]? = some (13, 300)) (hf : σ9.1 49 1 = 0) (n z : Nat) (hn : n ≤ 24) (hz : z ≤ 300) (h6 : σ9.1 49 6 = nI n) (h9 : σ9.1 49 9 = nI z) (k54 : κ[54]? = some (13, 96)) (k55 : κ[55]? = some (13, 300)) (k56 : κ[56]? = some (13, 300)) (k57 : κ[57]? = some (13, 3)) (k58 : κ[58]? = some (13, 3)) (h1 : f_X3_begin σ = some a) (h2 : f_X7_cut L a = some b) (h3 : xloop 25 b = some σ9) : Met l yX3_read (.code yX3_read cX3_read 4 (some (.object "CoverFires$Text")) :: WS) rmR (va_Pc [.ref (ad 49), .ref (ad 70), .int L] (RPre D ids ad κ σ sz)) (fun _ st oc t => (∃ r q1 q2 q3 q4 q5, oc = .returned (some (.ref r)) ∧ va_P D acl (aW ids ad κ σ9 ++ nW ids r q1 q2 q3 q4 q5 σ9 n z) t.heap ∧ va_D (va_A (aW ids ad κ σ) sz) (aW ids ad κ σ9 ++ nW ids r q1 q2 q3 q4 q5 σ9 n z)) ∧ va_F (va_A (aW ids ad κ σ) sz) st t) 6 720 (va_A (aW ids ad κ σ) sz) := by
  refine Met.ofW (cc := cX3_read) (maxL := 4) (ret := some (.object "CoverFires$Text")) (by decide) rfl ?_
  intro p e s m args below meth c s₁ B hml hv
  obtain ⟨rfl, hsz, hW, hK, hD0, hX0, hC⟩ := hv
  have hx := B.exec
  have hb := B.bytes
  have hr := B.returns
  have hts := atoms_spec (ws := .code yX3_read cX3_read 4 (some (.object "CoverFires$Text")) :: WS) B.pre
  have hown : s.vm.findClass RX3 = some m.cls := findClass_of_methodNamed B.named
  have hlocks := B.notSynchronized
  subst hsz
  have hD := hD0.self (sz := s.heap.size)
  have hA0 : ∀ q : Nat, s.heap.size ≤ q → va_A (aW ids ad κ σ) s.heap.size q := fun q h => Or.inr h
  generalize hAe : va_A (aW ids ad κ σ) s.heap.size = A at hD hX0 hA0 ⊢
  have hl := lv_entry ([.ref (ad 49), .ref (ad 70), .int L]) (n := 4) (Nat.le_of_ble_eq_true rfl)
  rw [lg_entry_eq]
  generalize (lg_sl ([.ref (ad 49), .ref (ad 70), .int L]) ++ List.replicate (4 - (lg_sl ([.ref (ad 49), .ref (ad 70), .int L])).length) Slot.unset).toArray = ls at hl ⊢
  have hl : lv_has ls 4 [(0, .ref (ad 49)), (1, .ref (ad 70)), (2, .int L)] := hl
  refine W.widen (k := 0) (n := 0) (Nat.le_refl _) (Nat.le_refl _) ?_
  refine rd_pre hx hb hml hown hts hK hR k49 k50 k70 hA0 hX0 (fun H locs ls hok hW hD hS hl => ?_) h1 h2 h3 hok hW hD va_S.rf hl
  refine lv_aload_n hx hb (show decode cX3_read 47 = .ok (.aload_n 0, 1) by decide +kernel) rfl (lv_at hl 0 rfl) ?_
  refine gw_get (c0 := 3) (n := 0) (j := 1) (k := 49) (q0 := 49) (f := (0, 0, 0, none)) (σ := σ9) hx hb hts hown hK hW (aW_get k49) (by decide) rfl (by decide) (wsm_1 (i := 238) rfl rfl) (show decode cX3_read 48 = .ok (.getfield 54, 3) by decide +kernel) ?_
  show W p l e rmR s m _ below meth c H locs _ _ _ (F0 m 51 ls [.int (σ9.1 49 1)])
  refine lv_if_eq (tgt := 56) hx hb (show decode cX3_read 51 = .ok (.ifCond .eq 5, 3) by decide +kernel) (by decide) (fun _ => ?_) (fun z => absurd hf z)
  have hRA : s.vm.findClass "[I" = some ids.1 := (hK.2 0 _ rfl).2
  refine va_new (ci := 6) (fs := tx0) (C := RX6) (T := TX6) (N := 5) hx hb hts (fun w hw => List.mem_cons_of_mem _ (uws_6 w hw)) tyX6 tyX6_ok hown (hts (.classLink RX3 18 RX6) (List.mem_cons_of_mem _ (wsm_3 (i := 178) rfl rfl))) (hts (.instantiable RX6 5) (List.mem_cons_of_mem _ (wsm_3 (i := 179) rfl rfl))) (hts (.initialized RX6) (List.mem_cons_of_mem _ (wsm_1 (i := 19) rfl rfl))) hK hW hD hS hA0 rfl dfX6 (Nat.le_of_ble_eq_true rfl) (Nat.le_of_ble_eq_true rfl) (show decode cX3_read 56 = .ok (.new 18, 3) by decide +kernel) (fun r H hW hD hS => ?_)
  have hW : va_P D acl (aW ids ad κ σ9 ++ [(r, .inr (6, tx0))]) H := hW
  have hD : va_D A (aW ids ad κ σ9 ++ [(r, .inr (6, tx0))]) := hD
  refine W.widen (k := 1) (n := 5) (Nat.le_refl _) (Nat.le_refl _) ?_
  refine lv_dup hx hb (show decode cX3_read 59 = .ok (.dup, 1) by decide +kernel) rfl ?_
  refine lv_aload_n hx hb (show decode cX3_read 60 = .ok (.aload_n 0, 1) by decide +kernel) rfl (lv_at hl 0 rfl) ?_
  refine gw_get (c0 := 3) (n := 0) (j := 5) (k := 49) (q0 := 49) (f := (2, 5, 13, some 96)) (σ := σ9) hx hb hts hown hK hW (ext_get k49) (by decide) rfl (by decide) (wsm_2 (i := 4) rfl rfl) (show decode cX3_read 61 = .ok (.getfield 20, 3) by decide +kernel) ?_
  show W p l e rmR s m _ below meth c H locs _ _ _ (F0 m 64 ls [.ref (ad 54), .ref r, .ref r])
  refine lv_aload_n hx hb (show decode cX3_read 64 = .ok (.aload_n 0, 1) by decide +kernel) rfl (lv_at hl 0 rfl) ?_
  refine gw_get (c0 := 3) (n := 0) (j := 6) (k := 49) (q0 := 49) (f := (0, 0, 0, none)) (σ := σ9) hx hb hts hown hK hW (ext_get k49) (by decide) rfl (by decide) (wsm_2 (i := 5) rfl rfl) (show decode cX3_read 65 = .ok (.getfield 57, 3) by decide +kernel) ?_
  show W p l e rmR s m _ below meth c H locs _ _ _ (F0 m 68 ls [.int (σ9.1 49 6), .ref (ad 54), .ref r, .ref r])
  rw [h6]
  refine lv_iconst (v := 4) hx hb (show decode cX3_read 68 = .ok (.iconst 4, 1) by decide +kernel) (by decide) ?_
  refine lv_imul hx hb (show decode cX3_read 69 = .ok (.imul, 1) by decide +kernel) ?_
  rw [show nI n * 4 = nI (4 * n) from (pk_mul n 4).trans (congrArg nI (Nat.mul_comm n 4))]
  have c0 : (aW ids ad κ σ9 ++ [(r, .inr (6, tx0))])[54]? = some (ad 54, .inl (ids.1, 96, .inl (σ9.1 54))) := ext_get k54
  refine gw_copyOf (rest := [.ref r, .ref r]) hx hb hml hl.1 hown hts ⟨Nat.le_of_ble_eq_true rfl, by show _ ≤ 720; omega⟩ hK hW hD hS hA0 hC c0 (by omega) (by decide) (wsm_3 (i := 180) rfl rfl) (show decode cX3_read 70 = .ok (.invokestatic 60, 3) by decide +kernel) ⟨Nat.le_of_ble_eq_true rfl, Nat.le_of_ble_eq_true rfl⟩ (Nat.le_of_ble_eq_true rfl) (fun q1 H locs hW hD hS => ?_)
  rw [List.append_assoc] at hW hD
  have hW : va_P D acl (aW ids ad κ σ9 ++ [(r, .inr (6, tx0)), (q1, .inl (ids.1, 4 * n, .inl (σ9.1 54)))]) H := hW
  have hD : va_D A (aW ids ad κ σ9 ++ [(r, .inr (6, tx0)), (q1, .inl (ids.1, 4 * n, .inl (σ9.1 54)))]) := hD
  refine W.widen (k := 2) (n := 5 + 4 * n) (Nat.le_refl _) (by omega) ?_
  refine lv_aload_n hx hb (show decode cX3_read 73 = .ok (.aload_n 0, 1) by decide +kernel) rfl (lv_at hl 0 rfl) ?_
  refine gw_get (c0 := 3) (n := 0) (j := 7) (k := 49) (q0 := 49) (f := (2, 6, 13, some 300)) (σ := σ9) hx hb hts hown hK hW (ext_get k49) (by decide) rfl (by decide) (wsm_2 (i := 6) rfl rfl) (show decode cX3_read 74 = .ok (.getfield 24, 3) by decide +kernel) ?_
  show W p l e rmR s m _ below meth c H locs _ _ _ (F0 m 77 ls [.ref (ad 55), .ref q1, .ref r, .ref r])
  refine lv_aload_n hx hb (show decode cX3_read 77 = .ok (.aload_n 0, 1) by decide +kernel) rfl (lv_at hl 0 rfl) ?_
  refine gw_get (c0 := 3) (n := 0) (j := 9) (k := 49) (q0 := 49) (f := (0, 0, 0, none)) (σ := σ9) hx hb hts hown hK hW (ext_get k49) (by decide) rfl (by decide) (wsm_2 (i := 8) rfl rfl) (show decode cX3_read 78 = .ok (.getfield 66, 3) by decide +kernel) ?_
  show W p l e rmR s m _ below meth c H locs _ _ _ (F0 m 81 ls [.int (σ9.1 49 9), .ref (ad 55), .ref q1, .ref r, .ref r])
  rw [h9]
  have c1 : (aW ids ad κ σ9 ++ [(r, .inr (6, tx0)), (q1, .inl (ids.1, 4 * n, .inl (σ9.1 54)))])[55]? = some (ad 55, .inl (ids.1, 300, .inl (σ9.1 55))) := ext_get k55
  refine gw_copyOf (rest := [.ref q1, .ref r, .ref r]) hx hb hml hl.1 hown hts ⟨Nat.le_of_ble_eq_true rfl, by show _ ≤ 720; omega⟩ hK hW hD hS hA0 hC c1 (by omega) (by decide) (wsm_3 (i := 180) rfl rfl) (show decode cX3_read 81 = .ok (.invokestatic 60, 3) by decide +kernel) ⟨Nat.le_of_ble_eq_true rfl, Nat.le_of_ble_eq_true rfl⟩ (Nat.le_of_ble_eq_true rfl) (fun q2 H locs hW hD hS => ?_)
  rw [List.append_assoc] at hW hD
  have hW : va_P D acl (aW ids ad κ σ9 ++ [(r, .inr (6, tx0)), (q1, .inl (ids.1, 4 * n, .inl (σ9.1 54))), (q2, .inl (ids.1, z, .inl (σ9.1 55)))]) H := hW
  have hD : va_D A (aW ids ad κ σ9 ++ [(r, .inr (6, tx0)), (q1, .inl (ids.1, 4 * n, .inl (σ9.1 54))), (q2, .inl (ids.1, z, .inl (σ9.1 55)))]) := hD
  refine W.widen (k := 3) (n := 5 + 4 * n + z) (Nat.le_refl _) (by omega) ?_
  refine lv_aload_n hx hb (show decode cX3_read 84 = .ok (.aload_n 0, 1) by decide +kernel) rfl (lv_at hl 0 rfl) ?_
  refine gw_get (c0 := 3) (n := 0) (j := 8) (k := 49) (q0 := 49) (f := (2, 7, 13, some 300)) (σ := σ9) hx hb hts hown hK hW (ext_get k49) (by decide) rfl (by decide) (wsm_2 (i := 7) rfl rfl) (show decode cX3_read 85 = .ok (.getfield 27, 3) by decide +kernel) ?_
  show W p l e rmR s m _ below meth c H locs _ _ _ (F0 m 88 ls [.ref (ad 56), .ref q2, .ref q1, .ref r, .ref r])
  refine lv_aload_n hx hb (show decode cX3_read 88 = .ok (.aload_n 0, 1) by decide +kernel) rfl (lv_at hl 0 rfl) ?_
  refine gw_get (c0 := 3) (n := 0) (j := 9) (k := 49) (q0 := 49) (f := (0, 0, 0, none)) (σ := σ9) hx hb hts hown hK hW (ext_get k49) (by decide) rfl (by decide) (wsm_2 (i := 8) rfl rfl) (show decode cX3_read 89 = .ok (.getfield 66, 3) by decide +kernel) ?_
  show W p l e rmR s m _ below meth c H locs _ _ _ (F0 m 92 ls [.int (σ9.1 49 9), .ref (ad 56), .ref q2, .ref q1, .ref r, .ref r])
  rw [h9]
  have c2 : (aW ids ad κ σ9 ++ [(r, .inr (6, tx0)), (q1, .inl (ids.1, 4 * n, .inl (σ9.1 54))), (q2, .inl (ids.1, z, .inl (σ9.1 55)))])[56]? = some (ad 56, .inl (ids.1, 300, .inl (σ9.1 56))) := ext_get k56
  refine gw_copyOf (rest := [.ref q2, .ref q1, .ref r, .ref r]) hx hb hml hl.1 hown hts ⟨Nat.le_of_ble_eq_true rfl, by show _ ≤ 720; omega⟩ hK hW hD hS hA0 hC c2 (by omega) (by decide) (wsm_3 (i := 180) rfl rfl) (show decode cX3_read 92 = .ok (.invokestatic 60, 3) by decide +kernel) ⟨Nat.le_of_ble_eq_true rfl, Nat.le_of_ble_eq_true rfl⟩ (Nat.le_of_ble_eq_true rfl) (fun q3 H locs hW hD hS => ?_)
  rw [List.append_assoc] at hW hD
  have hW : va_P D acl (aW ids ad κ σ9 ++ [(r, .inr (6, tx0)), (q1, .inl (ids.1, 4 * n, .inl (σ9.1 54))), (q2, .inl (ids.1, z, .inl (σ9.1 55))), (q3, .inl (ids.1, z, .inl (σ9.1 56)))]) H := hW
  have hD : va_D A (aW ids ad κ σ9 ++ [(r, .inr (6, tx0)), (q1, .inl (ids.1, 4 * n, .inl (σ9.1 54))), (q2, .inl (ids.1, z, .inl (σ9.1 55))), (q3, .inl (ids.1, z, .inl (σ9.1 56)))]) := hD
  refine W.widen (k := 4) (n := 5 + 4 * n + z + z) (Nat.le_refl _) (by omega) ?_
  refine lv_aload_n hx hb (show decode cX3_read 95 = .ok (.aload_n 0, 1) by decide +kernel) rfl (lv_at hl 0 rfl) ?_
  refine gw_get (c0 := 3) (n := 0) (j := 10) (k := 49) (q0 := 49) (f := (2, 8, 13, some 3)) (σ := σ9) hx hb hts hown hK hW (ext_get k49) (by decide) rfl (by decide) (wsm_2 (i := 9) rfl rfl) (show decode cX3_read 96 = .ok (.getfield 30, 3) by decide +kernel) ?_
  show W p l e rmR s m _ below meth c H locs _ _ _ (F0 m 99 ls [.ref (ad 57), .ref q3, .ref q2, .ref q1, .ref r, .ref r])
  have c3 : (aW ids ad κ σ9 ++ [(r, .inr (6, tx0)), (q1, .inl (ids.1, 4 * n, .inl (σ9.1 54))), (q2, .inl (ids.1, z, .inl (σ9.1 55))), (q3, .inl (ids.1, z, .inl (σ9.1 56)))])[57]? = some (ad 57, .inl (ids.1, 3, .inl (σ9.1 57))) := ext_get k57
  refine va_clone hx hb (by rw [hml]; exact hl.1.symm) hown (hts (.methodLink RX3 69 yClo) (List.mem_cons_of_mem _ (wsm_3 (i := 194) rfl rfl))) (hts _ (List.mem_cons_of_mem _ wClo_same)) (hts _ (List.mem_cons_of_mem _ wClo_nat)) (hts _ (List.mem_cons_of_mem _ wClo_inst)) (hts _ (List.mem_cons_of_mem _ wClo_sel)) hC hK hW hD hS hA0 57 0 c3 rfl hRA (va_fit (fun i hi => rfl)) (Nat.le_of_ble_eq_true rfl) (by show _ ≤ 8240; exact Nat.le_of_ble_eq_true rfl) (Nat.le_of_ble_eq_true rfl) (by show _ + 3 ≤ 720; omega) (show decode cX3_read 99 = .ok (.invokevirtual 69, 3) by decide +kernel) (fun q4 H hK1 hW hD hS => ?_)
  rw [List.append_assoc] at hW hD
  have hW : va_P D acl (aW ids ad κ σ9 ++ [(r, .inr (6, tx0)), (q1, .inl (ids.1, 4 * n, .inl (σ9.1 54))), (q2, .inl (ids.1, z, .inl (σ9.1 55))), (q3, .inl (ids.1, z, .inl (σ9.1 56))), (q4, .inl (ids.1, 3, .inl (σ9.1 57)))]) H := hW
  have hD : va_D A (aW ids ad κ σ9 ++ [(r, .inr (6, tx0)), (q1, .inl (ids.1, 4 * n, .inl (σ9.1 54))), (q2, .inl (ids.1, z, .inl (σ9.1 55))), (q3, .inl (ids.1, z, .inl (σ9.1 56))), (q4, .inl (ids.1, 3, .inl (σ9.1 57)))]) := hD
  refine W.widen (k := 5) (n := 5 + 4 * n + z + z + 3) (Nat.le_refl _) (by show _ + 3 ≤ _; omega) ?_
  refine va_castA hx hb hown (hts (.classLink RX3 70 "[I") (List.mem_cons_of_mem _ (wsm_3 (i := 195) rfl rfl))) hW (κ.length + 4) (ext_new 4) hRA (show decode cX3_read 102 = .ok (.checkcast 70, 3) by decide +kernel) ?_
  refine lv_aload_n hx hb (show decode cX3_read 105 = .ok (.aload_n 0, 1) by decide +kernel) rfl (lv_at hl 0 rfl) ?_
  refine gw_get (c0 := 3) (n := 0) (j := 11) (k := 49) (q0 := 49) (f := (2, 9, 13, some 3)) (σ := σ9) hx hb hts hown hK hW (ext_get k49) (by decide) rfl (by decide) (wsm_2 (i := 10) rfl rfl) (show decode cX3_read 106 = .ok (.getfield 33, 3) by decide +kernel) ?_
  show W p l e rmR s m _ below meth c H locs _ _ _ (F0 m 109 ls [.ref (ad 58), .ref q4, .ref q3, .ref q2, .ref q1, .ref r, .ref r])
  have c4 : (aW ids ad κ σ9 ++ [(r, .inr (6, tx0)), (q1, .inl (ids.1, 4 * n, .inl (σ9.1 54))), (q2, .inl (ids.1, z, .inl (σ9.1 55))), (q3, .inl (ids.1, z, .inl (σ9.1 56))), (q4, .inl (ids.1, 3, .inl (σ9.1 57)))])[58]? = some (ad 58, .inl (ids.1, 3, .inl (σ9.1 58))) := ext_get k58
  refine va_clone hx hb (by rw [hml]; exact hl.1.symm) hown (hts (.methodLink RX3 69 yClo) (List.mem_cons_of_mem _ (wsm_3 (i := 194) rfl rfl))) (hts _ (List.mem_cons_of_mem _ wClo_same)) (hts _ (List.mem_cons_of_mem _ wClo_nat)) (hts _ (List.mem_cons_of_mem _ wClo_inst)) (hts _ (List.mem_cons_of_mem _ wClo_sel)) hC hK hW hD hS hA0 58 0 c4 rfl hRA (va_fit (fun i hi => rfl)) (Nat.le_of_ble_eq_true rfl) (by show _ ≤ 8240; exact Nat.le_of_ble_eq_true rfl) (Nat.le_of_ble_eq_true rfl) (by show _ + 3 ≤ 720; omega) (show decode cX3_read 109 = .ok (.invokevirtual 69, 3) by decide +kernel) (fun q5 H hK1 hW hD hS => ?_)
  rw [List.append_assoc] at hW hD
  have hW : va_P D acl (aW ids ad κ σ9 ++ [(r, .inr (6, tx0)), (q1, .inl (ids.1, 4 * n, .inl (σ9.1 54))), (q2, .inl (ids.1, z, .inl (σ9.1 55))), (q3, .inl (ids.1, z, .inl (σ9.1 56))), (q4, .inl (ids.1, 3, .inl (σ9.1 57))), (q5, .inl (ids.1, 3, .inl (σ9.1 58)))]) H := hW
  have hD : va_D A (aW ids ad κ σ9 ++ [(r, .inr (6, tx0)), (q1, .inl (ids.1, 4 * n, .inl (σ9.1 54))), (q2, .inl (ids.1, z, .inl (σ9.1 55))), (q3, .inl (ids.1, z, .inl (σ9.1 56))), (q4, .inl (ids.1, 3, .inl (σ9.1 57))), (q5, .inl (ids.1, 3, .inl (σ9.1 58)))]) := hD
  refine W.widen (k := 6) (n := 5 + 4 * n + z + z + 3 + 3) (Nat.le_refl _) (by show _ + 3 ≤ _; omega) ?_
  refine va_castA hx hb hown (hts (.classLink RX3 70 "[I") (List.mem_cons_of_mem _ (wsm_3 (i := 195) rfl rfl))) hW (κ.length + 5) (ext_new 5) hRA (show decode cX3_read 112 = .ok (.checkcast 70, 3) by decide +kernel) ?_
  have c6 : (aW ids ad κ σ9 ++ [(r, .inr (6, tx0)), (q1, .inl (ids.1, 4 * n, .inl (σ9.1 54))), (q2, .inl (ids.1, z, .inl (σ9.1 55))), (q3, .inl (ids.1, z, .inl (σ9.1 56))), (q4, .inl (ids.1, 3, .inl (σ9.1 57))), (q5, .inl (ids.1, 3, .inl (σ9.1 58)))])[κ.length]? = some (r, .inr (6, tx0)) := ext_new 0
  have he0 : ([κ.length].map fun i => (aW ids ad κ σ9 ++ [(r, .inr (6, tx0)), (q1, .inl (ids.1, 4 * n, .inl (σ9.1 54))), (q2, .inl (ids.1, z, .inl (σ9.1 55))), (q3, .inl (ids.1, z, .inl (σ9.1 56))), (q4, .inl (ids.1, 3, .inl (σ9.1 57))), (q5, .inl (ids.1, 3, .inl (σ9.1 58)))])[i]?) = [((r, .inr (6, tx0)) : Nat × va_E)].map some := by
    show [(aW ids ad κ σ9 ++ [(r, .inr (6, tx0)), (q1, .inl (ids.1, 4 * n, .inl (σ9.1 54))), (q2, .inl (ids.1, z, .inl (σ9.1 55))), (q3, .inl (ids.1, z, .inl (σ9.1 56))), (q4, .inl (ids.1, 3, .inl (σ9.1 57))), (q5, .inl (ids.1, 3, .inl (σ9.1 58)))])[κ.length]?] = _
    rw [c6]
    rfl
  have hFc := va_free (wc := [(r, .inr (6, tx0))]) hD hS hA0 [κ.length] he0
  have hPc : va_P D acl [(r, .inr (6, tx0))] H := fun k x hk => by
    have hz : k < 1 := (List.getElem?_eq_some_iff.mp hk).1
    rw [show k = 0 by omega] at hk
    cases hk
    exact hW κ.length _ c6
  have hDc : va_D (fun _ => True) [((r, .inr (6, tx0)) : Nat × va_E)] := ⟨fun i j x y hi hj _ => by
    have h1 : i < 1 := (List.getElem?_eq_some_iff.mp hi).1
    have h2 : j < 1 := (List.getElem?_eq_some_iff.mp hj).1
    omega, fun _ _ _ => trivial⟩
  refine va_callv (va_runI (As := [.ref q1, .ref q2, .ref q3, .ref q4, .ref q5]) (rest := [.ref r]) ⟨hx, hb, hml, hown, hts⟩ (ct6 l D ids r q1 q2 q3 q4 q5 H.size) (cwI 5 hts (goodIn_cw (wsm_3 (i := 198) rfl rfl)) rfl rfl rfl (hts (.initialized RX6) (List.mem_cons_of_mem _ (wsm_1 (i := 19) rfl rfl))) (hts (.methodLink RX3 74 yX6_init) (List.mem_cons_of_mem _ (wsm_3 (i := 196) rfl rfl))) (hts (.instanceMethod yX6_init) (List.mem_cons_of_mem _ (wsm_3 (i := 197) rfl rfl))) rfl (by decide +kernel) ⟨Nat.le_of_ble_eq_true rfl, Nat.le_of_ble_eq_true rfl⟩) ⟨fun a U g mk q => by obtain ⟨q0, q1, qP, qK, qD⟩ := q; exact ⟨q0, q1, qP, va_K.moved (u := U) (U := U.calling g mk a) (Vm.Alike.refl U.vm) qK, qD⟩, fun U hU hWm => ⟨rfl, by rw [hU], by rw [hU]; exact hPc, va_K.moved hWm.alike hK, hDc⟩⟩ rfl rfl hl.1 rfl (lv_room (Nat.le_of_ble_eq_true rfl)) (show decode cX3_read 115 = .ok (.invokespecial 74, 3) by decide +kernel) ⟨Nat.le_of_ble_eq_true rfl, by show _ + 0 ≤ 720; omega⟩) hS (fun q _ h => hFc q h) hFc (fun u t H1 locs ht hvm _ hB hz1 hk1 hS => ?_)
  have hB : va_P D acl [(r, .inr (6, [.ref q1, .ref q2, .ref q3, .ref q4, .ref q5]))] t.heap := hB
  rw [ht] at hB
  obtain ⟨hW, hD⟩ := set1 hW hD c6 hk1 hB
  rw [ext_set] at hW hD
  refine W.widen (k := 6) (n := 720) (Nat.le_refl _) (by show _ + 0 ≤ 720; omega) ?_
  exact W.aret hx hb hr (Or.inl ⟨_, rfl⟩) (Or.inr ⟨r, rfl⟩) (fun t ht hWm => ⟨⟨r, q1, q2, q3, q4, q5, rfl, by rw [ht]; exact hW, hD⟩, hS.F ht⟩) hS.2.2 (show decode cX3_read 118 = .ok (.areturn, 1) by decide +kernel)
