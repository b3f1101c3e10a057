/-! the constructors (printed by wip/whole/gen_ctor.py) -/
theorem ids_of {D : va_G} {ids : Ids} {cA : ClassId} {ty : FieldType} {s : State} {k : Nat} {q : ClassId × FieldType} (hk : (atys ids)[k]? = some q) (e : q.2 = ty) (hp : ∀ c : ClassId, va_RA s c ty → s.vm.findClass ("[" ++ ty.toString) = some c) (h : va_K D acl (atys ids ++ [(cA, ty)]) s) : q.1 = cA := by
  have h1 := (h.2 k q (by rw [List.getElem?_append_left (List.getElem?_eq_some_iff.mp hk).1]; exact hk)).2
  have h2 := (h.2 4 (cA, ty) rfl).2
  rw [e] at h1
  exact Option.some.inj ((hp _ h1).symm.trans (hp _ h2))
theorem ids_int {D : va_G} {ids : Ids} {cA : ClassId} {s : State} (h : va_K D acl (atys ids ++ [(cA, .int)]) s) : ids.1 = cA := ids_of (k := 0) rfl rfl (fun _ h => h) h
theorem ids_long {D : va_G} {ids : Ids} {cA : ClassId} {s : State} (h : va_K D acl (atys ids ++ [(cA, .long)]) s) : ids.2.1 = cA := ids_of (k := 1) rfl rfl (fun _ h => h) h
theorem ids_boolean {D : va_G} {ids : Ids} {cA : ClassId} {s : State} (h : va_K D acl (atys ids ++ [(cA, .boolean)]) s) : ids.2.2.1 = cA := ids_of (k := 2) rfl rfl (fun _ h => h) h
theorem ids_text {D : va_G} {ids : Ids} {cA : ClassId} {s : State} (h : va_K D acl (atys ids ++ [(cA, .object RX6)]) s) : ids.2.2.2 = cA := ids_of (k := 3) rfl rfl (fun _ h => by obtain ⟨kA, comp, _, _, _, h4⟩ := h; exact h4) h
def nestC : List (String × Nat × MethodName) := [(RX11, 9, yX10_init), (RX10, 11, yX8_init), (RX10, 20, yX5_init), (RX10, 27, yX4_init), (RX11, 21, yX8_init), (RX11, 28, yX1_init), (RX11, 35, yX3_init), (RX3, 11, yX7_init), (RX11, 42, yX9_init), (RX11, 49, yX0_init), (RX11, 56, yX2_init)]
def CO (U : State) : Prop := va_AO RX6 U ∧ ∀ q ∈ nestC, va_Nw (.methodLinkNest q.1 q.2.1 q.2.2 "CoverFires") U
theorem CO.warm {s U : State} (h : CO s) (hW : s.WarmedH U.vm) : CO U := ⟨h.1.moved hW.alike, fun q hq => (h.2 q hq).warmM hW⟩
theorem CO.same {u U : State} (h : CO u) (hv : u.vm = U.vm) : CO U := ⟨h.1.moved (by rw [hv]; exact Vm.Alike.refl _), fun q hq => (h.2 q hq).same rfl hv⟩
theorem goodIn_cw {w w2 : Cond} (h : w2 ∈ WS) : GoodIn (w :: WS) (w2 :: WS) := by
  intro x hx
  rcases List.mem_cons.mp hx with rfl | hx
  · exact ⟨List.mem_cons_of_mem _ h, good_of_word (ws_good _ h)⟩
  · exact ⟨List.mem_cons_of_mem _ hx, good_of_word (ws_good _ hx)⟩
def bw0 (ids : Ids) (a : Nat → Nat) : va_W := [(a 0, .inr (0, [.ref (a 1), .int 0, .ref (a 2), .ref (a 3), .ref (a 4), .int 0, .int 0])), (a 1, .inl (ids.1, 8, .inl (fun _ => 0))), (a 2, .inl (ids.1, 8, .inl (fun _ => 0))), (a 3, .inl (ids.1, 8, .inl (fun _ => 0))), (a 4, .inl (ids.1, 8, .inl (fun _ => 0)))]
theorem dfX0 : ∀ j, j < 7 → defaultValue (tyX0 j) = vp_V [.null, .int 0, .null, .null, .null, .int 0, .int 0] j := by
  intro j hj
  match j, hj with
  | 0, _ => rfl
  | 1, _ => rfl
  | 2, _ => rfl
  | 3, _ => rfl
  | 4, _ => rfl
  | 5, _ => rfl
  | 6, _ => rfl
  | j + 7, h => omega
set_option maxHeartbeats 8000000 in
set_option maxRecDepth 100000 in
theorem ct0 (l : Launch) (D : va_G) (ids : Ids) (h0 sz : Nat) : Met l yX0_init (.code yX0_init cX0_init 1 none :: WS) { frames := 1, cells := 4, slots := 32, locals := 16 } (va_Pc [.ref h0] (fun U => U.heap.size = sz ∧ va_P D acl [(h0, .inr (0, [.null, .int 0, .null, .null, .null, .int 0, .int 0]))] U.heap ∧ va_K D acl (atys ids) U ∧ va_D (fun _ => True) [(h0, .inr (0, [.null, .int 0, .null, .null, .null, .int 0, .int 0]))] ∧ CO U)) (va_Qv (S := Unit) (fun _ => True) (fun _ t => ∃ a : Nat → Nat, a 0 = h0 ∧ va_P D acl (bw0 ids a) t.heap ∧ va_D (va_A [(h0, .inr (0, [.null, .int 0, .null, .null, .null, .int 0, .int 0]))] sz) (bw0 ids a)) (va_A [(h0, .inr (0, [.null, .int 0, .null, .null, .null, .int 0, .int 0]))] sz)) 4 32 (va_A [(h0, .inr (0, [.null, .int 0, .null, .null, .null, .int 0, .int 0]))] sz) := by
  refine Met.ofW (cc := cX0_init) (maxL := 1) (ret := none) (by decide) rfl ?_
  intro p e s m args below meth c s₁ B hml hv
  obtain ⟨rfl, hsz, hP, hK, hD0, hO⟩ := hv
  have hx := B.exec
  have hb := B.bytes
  have hr := B.returns
  have hts := atoms_spec (ws := .code yX0_init cX0_init 1 none :: WS) B.pre
  have hown : s.vm.findClass RX0 = some m.cls := findClass_of_methodNamed B.named
  have hlocks := B.notSynchronized
  have hin : meth.name = "<init>" := (name_of_methodNamed B.named B.method).1
  subst hsz
  have hD := hD0.self (sz := s.heap.size)
  generalize hAe : va_A [(h0, .inr (0, [.null, .int 0, .null, .null, .null, .int 0, .int 0]))] s.heap.size = A at hD ⊢
  have hA : ∀ q : Nat, s.heap.size ≤ q → A q := fun q h => by rw [← hAe]; exact Or.inr h
  have hS : va_S A s.heap s.heap [] := va_S.rf
  have hP : va_P D acl [(h0, .inr (0, [.null, .int 0, .null, .null, .null, .int 0, .int 0]))] s.heap := hP
  have hl := lv_entry ([.ref h0]) (n := 1) (Nat.le_of_ble_eq_true rfl)
  rw [lg_entry_eq]
  generalize (lg_sl ([.ref h0]) ++ List.replicate (1 - (lg_sl ([.ref h0])).length) Slot.unset).toArray = ls at hl ⊢
  have hl : lv_has ls 1 [(0, .ref h0)] := hl
  refine lv_aload_n hx hb (show decode cX0_init 0 = .ok (.aload_n 0, 1) by decide +kernel) rfl (lv_at hl 0 rfl) ?_
  refine W.objInit hx hb hown (hts (.methodLink RX0 3 objectInit) (List.mem_cons_of_mem _ (wsm_2 (i := 57) rfl rfl))) (hts (.instanceMethod objectInit) (List.mem_cons_of_mem _ (wsm_1 (i := 30) rfl rfl))) (hts (.code objectInit ⟨#[0xb1]⟩ 1 none) (List.mem_cons_of_mem _ (wsm_1 (i := 31) rfl rfl))) rfl (by rw [hml]; exact hl.1) rfl (show decode cX0_init 1 = .ok (.invokespecial 3, 3) by decide +kernel) (Nat.le_of_ble_eq_true rfl) (Nat.le_of_ble_eq_true rfl) ?_
  refine W.eq (g2 := F0 m 4 ls []) rfl ?_
  refine lv_aload_n hx hb (show decode cX0_init 4 = .ok (.aload_n 0, 1) by decide +kernel) rfl (lv_at hl 0 rfl) ?_
  refine lv_bipush (v := 8) hx hb (show decode cX0_init 5 = .ok (.bipush 8, 2) by decide +kernel) (by decide) ?_
  refine va_newa (atype := .int) (ty := .int) (a0 := (8, (.inl (fun _ => 0)))) hx hb (hts (.arrayClass .int) (List.mem_cons_of_mem _ (wsm_1 (i := 93) rfl rfl))) rfl hK hP hD hS hA (N' := 8) (fun cA => rfl) (by decide) rfl (Nat.le_of_ble_eq_true rfl) (Nat.le_of_ble_eq_true rfl) (Nat.le_of_ble_eq_true rfl) (show decode cX0_init 7 = .ok (.newarray .int, 2) by decide +kernel) (fun q7 cA H hK1 hP hD hS => ?_)
  obtain rfl := ids_int hK1
  clear hK1
  have hP : va_P D acl ([(h0, .inr (0, [.null, .int 0, .null, .null, .null, .int 0, .int 0]))] ++ [(q7, .inl (ids.1, 8, .inl (fun _ => 0)))]) H := hP
  have hD : va_D A ([(h0, .inr (0, [.null, .int 0, .null, .null, .null, .int 0, .int 0]))] ++ [(q7, .inl (ids.1, 8, .inl (fun _ => 0)))]) := hD
  refine W.widen (k := 1) (n := 8) (Nat.le_of_ble_eq_true rfl) (Nat.le_of_ble_eq_true rfl) ?_
  refine va_putF (D := D) (ci := 0) (v := .ref q7) (ty := .array .int) (C := RX0) (T := TX0) (N := 7) hx hb hts (fun w hw => List.mem_cons_of_mem _ (uws_0 w hw)) tyX0 tyX0_ok nmX0 hown hK hP hD hS 0 rfl rfl 0 (by decide) (hts (.fieldLink RX0 9 "CoverFires$Dawn" "best" "[I") (List.mem_cons_of_mem _ (wsm_2 (i := 58) rfl rfl))) (fun _ h9 => h9) rfl hin rfl (by decide +kernel) rfl rfl (Nat.le_of_ble_eq_true rfl) (show decode cX0_init 9 = .ok (.putfield 9, 3) by decide +kernel) (fun H locs hP hD hS => ?_)
  have hP : va_P D acl ([(h0, .inr (0, [.ref q7, .int 0, .null, .null, .null, .int 0, .int 0]))] ++ [(q7, .inl (ids.1, 8, .inl (fun _ => 0)))]) H := hP
  have hD : va_D A ([(h0, .inr (0, [.ref q7, .int 0, .null, .null, .null, .int 0, .int 0]))] ++ [(q7, .inl (ids.1, 8, .inl (fun _ => 0)))]) := hD
  refine lv_aload_n hx hb (show decode cX0_init 12 = .ok (.aload_n 0, 1) by decide +kernel) rfl (lv_at hl 0 rfl) ?_
  refine lv_bipush (v := 8) hx hb (show decode cX0_init 13 = .ok (.bipush 8, 2) by decide +kernel) (by decide) ?_
  refine va_newa (atype := .int) (ty := .int) (a0 := (8, (.inl (fun _ => 0)))) hx hb (hts (.arrayClass .int) (List.mem_cons_of_mem _ (wsm_1 (i := 93) rfl rfl))) rfl hK hP hD hS hA (N' := 8) (fun cA => rfl) (by decide) rfl (Nat.le_of_ble_eq_true rfl) (Nat.le_of_ble_eq_true rfl) (Nat.le_of_ble_eq_true rfl) (show decode cX0_init 15 = .ok (.newarray .int, 2) by decide +kernel) (fun q15 cA H hK1 hP hD hS => ?_)
  obtain rfl := ids_int hK1
  clear hK1
  have hP : va_P D acl ([(h0, .inr (0, [.ref q7, .int 0, .null, .null, .null, .int 0, .int 0]))] ++ [(q7, .inl (ids.1, 8, .inl (fun _ => 0)))] ++ [(q15, .inl (ids.1, 8, .inl (fun _ => 0)))]) H := hP
  have hD : va_D A ([(h0, .inr (0, [.ref q7, .int 0, .null, .null, .null, .int 0, .int 0]))] ++ [(q7, .inl (ids.1, 8, .inl (fun _ => 0)))] ++ [(q15, .inl (ids.1, 8, .inl (fun _ => 0)))]) := hD
  refine W.widen (k := 2) (n := 16) (Nat.le_of_ble_eq_true rfl) (Nat.le_of_ble_eq_true rfl) ?_
  refine va_putF (D := D) (ci := 0) (v := .ref q15) (ty := .array .int) (C := RX0) (T := TX0) (N := 7) hx hb hts (fun w hw => List.mem_cons_of_mem _ (uws_0 w hw)) tyX0 tyX0_ok nmX0 hown hK hP hD hS 0 rfl rfl 2 (by decide) (hts (.fieldLink RX0 15 "CoverFires$Dawn" "chosen" "[I") (List.mem_cons_of_mem _ (wsm_2 (i := 62) rfl rfl))) (fun _ h9 => h9) rfl hin rfl (by decide +kernel) rfl rfl (Nat.le_of_ble_eq_true rfl) (show decode cX0_init 17 = .ok (.putfield 15, 3) by decide +kernel) (fun H locs hP hD hS => ?_)
  have hP : va_P D acl ([(h0, .inr (0, [.ref q7, .int 0, .ref q15, .null, .null, .int 0, .int 0]))] ++ [(q7, .inl (ids.1, 8, .inl (fun _ => 0)))] ++ [(q15, .inl (ids.1, 8, .inl (fun _ => 0)))]) H := hP
  have hD : va_D A ([(h0, .inr (0, [.ref q7, .int 0, .ref q15, .null, .null, .int 0, .int 0]))] ++ [(q7, .inl (ids.1, 8, .inl (fun _ => 0)))] ++ [(q15, .inl (ids.1, 8, .inl (fun _ => 0)))]) := hD
  refine lv_aload_n hx hb (show decode cX0_init 20 = .ok (.aload_n 0, 1) by decide +kernel) rfl (lv_at hl 0 rfl) ?_
  refine lv_bipush (v := 8) hx hb (show decode cX0_init 21 = .ok (.bipush 8, 2) by decide +kernel) (by decide) ?_
  refine va_newa (atype := .int) (ty := .int) (a0 := (8, (.inl (fun _ => 0)))) hx hb (hts (.arrayClass .int) (List.mem_cons_of_mem _ (wsm_1 (i := 93) rfl rfl))) rfl hK hP hD hS hA (N' := 8) (fun cA => rfl) (by decide) rfl (Nat.le_of_ble_eq_true rfl) (Nat.le_of_ble_eq_true rfl) (Nat.le_of_ble_eq_true rfl) (show decode cX0_init 23 = .ok (.newarray .int, 2) by decide +kernel) (fun q23 cA H hK1 hP hD hS => ?_)
  obtain rfl := ids_int hK1
  clear hK1
  have hP : va_P D acl ([(h0, .inr (0, [.ref q7, .int 0, .ref q15, .null, .null, .int 0, .int 0]))] ++ [(q7, .inl (ids.1, 8, .inl (fun _ => 0)))] ++ [(q15, .inl (ids.1, 8, .inl (fun _ => 0)))] ++ [(q23, .inl (ids.1, 8, .inl (fun _ => 0)))]) H := hP
  have hD : va_D A ([(h0, .inr (0, [.ref q7, .int 0, .ref q15, .null, .null, .int 0, .int 0]))] ++ [(q7, .inl (ids.1, 8, .inl (fun _ => 0)))] ++ [(q15, .inl (ids.1, 8, .inl (fun _ => 0)))] ++ [(q23, .inl (ids.1, 8, .inl (fun _ => 0)))]) := hD
  refine W.widen (k := 3) (n := 24) (Nat.le_of_ble_eq_true rfl) (Nat.le_of_ble_eq_true rfl) ?_
  refine va_putF (D := D) (ci := 0) (v := .ref q23) (ty := .array .int) (C := RX0) (T := TX0) (N := 7) hx hb hts (fun w hw => List.mem_cons_of_mem _ (uws_0 w hw)) tyX0 tyX0_ok nmX0 hown hK hP hD hS 0 rfl rfl 3 (by decide) (hts (.fieldLink RX0 18 "CoverFires$Dawn" "given" "[I") (List.mem_cons_of_mem _ (wsm_2 (i := 63) rfl rfl))) (fun _ h9 => h9) rfl hin rfl (by decide +kernel) rfl rfl (Nat.le_of_ble_eq_true rfl) (show decode cX0_init 25 = .ok (.putfield 18, 3) by decide +kernel) (fun H locs hP hD hS => ?_)
  have hP : va_P D acl ([(h0, .inr (0, [.ref q7, .int 0, .ref q15, .ref q23, .null, .int 0, .int 0]))] ++ [(q7, .inl (ids.1, 8, .inl (fun _ => 0)))] ++ [(q15, .inl (ids.1, 8, .inl (fun _ => 0)))] ++ [(q23, .inl (ids.1, 8, .inl (fun _ => 0)))]) H := hP
  have hD : va_D A ([(h0, .inr (0, [.ref q7, .int 0, .ref q15, .ref q23, .null, .int 0, .int 0]))] ++ [(q7, .inl (ids.1, 8, .inl (fun _ => 0)))] ++ [(q15, .inl (ids.1, 8, .inl (fun _ => 0)))] ++ [(q23, .inl (ids.1, 8, .inl (fun _ => 0)))]) := hD
  refine lv_aload_n hx hb (show decode cX0_init 28 = .ok (.aload_n 0, 1) by decide +kernel) rfl (lv_at hl 0 rfl) ?_
  refine lv_bipush (v := 8) hx hb (show decode cX0_init 29 = .ok (.bipush 8, 2) by decide +kernel) (by decide) ?_
  refine va_newa (atype := .int) (ty := .int) (a0 := (8, (.inl (fun _ => 0)))) hx hb (hts (.arrayClass .int) (List.mem_cons_of_mem _ (wsm_1 (i := 93) rfl rfl))) rfl hK hP hD hS hA (N' := 8) (fun cA => rfl) (by decide) rfl (Nat.le_of_ble_eq_true rfl) (Nat.le_of_ble_eq_true rfl) (Nat.le_of_ble_eq_true rfl) (show decode cX0_init 31 = .ok (.newarray .int, 2) by decide +kernel) (fun q31 cA H hK1 hP hD hS => ?_)
  obtain rfl := ids_int hK1
  clear hK1
  have hP : va_P D acl ([(h0, .inr (0, [.ref q7, .int 0, .ref q15, .ref q23, .null, .int 0, .int 0]))] ++ [(q7, .inl (ids.1, 8, .inl (fun _ => 0)))] ++ [(q15, .inl (ids.1, 8, .inl (fun _ => 0)))] ++ [(q23, .inl (ids.1, 8, .inl (fun _ => 0)))] ++ [(q31, .inl (ids.1, 8, .inl (fun _ => 0)))]) H := hP
  have hD : va_D A ([(h0, .inr (0, [.ref q7, .int 0, .ref q15, .ref q23, .null, .int 0, .int 0]))] ++ [(q7, .inl (ids.1, 8, .inl (fun _ => 0)))] ++ [(q15, .inl (ids.1, 8, .inl (fun _ => 0)))] ++ [(q23, .inl (ids.1, 8, .inl (fun _ => 0)))] ++ [(q31, .inl (ids.1, 8, .inl (fun _ => 0)))]) := hD
  refine W.widen (k := 4) (n := 32) (Nat.le_of_ble_eq_true rfl) (Nat.le_of_ble_eq_true rfl) ?_
  refine va_putF (D := D) (ci := 0) (v := .ref q31) (ty := .array .int) (C := RX0) (T := TX0) (N := 7) hx hb hts (fun w hw => List.mem_cons_of_mem _ (uws_0 w hw)) tyX0 tyX0_ok nmX0 hown hK hP hD hS 0 rfl rfl 4 (by decide) (hts (.fieldLink RX0 21 "CoverFires$Dawn" "may" "[I") (List.mem_cons_of_mem _ (wsm_2 (i := 64) rfl rfl))) (fun _ h9 => h9) rfl hin rfl (by decide +kernel) rfl rfl (Nat.le_of_ble_eq_true rfl) (show decode cX0_init 33 = .ok (.putfield 21, 3) by decide +kernel) (fun H locs hP hD hS => ?_)
  have hP : va_P D acl ([(h0, .inr (0, [.ref q7, .int 0, .ref q15, .ref q23, .ref q31, .int 0, .int 0]))] ++ [(q7, .inl (ids.1, 8, .inl (fun _ => 0)))] ++ [(q15, .inl (ids.1, 8, .inl (fun _ => 0)))] ++ [(q23, .inl (ids.1, 8, .inl (fun _ => 0)))] ++ [(q31, .inl (ids.1, 8, .inl (fun _ => 0)))]) H := hP
  have hD : va_D A ([(h0, .inr (0, [.ref q7, .int 0, .ref q15, .ref q23, .ref q31, .int 0, .int 0]))] ++ [(q7, .inl (ids.1, 8, .inl (fun _ => 0)))] ++ [(q15, .inl (ids.1, 8, .inl (fun _ => 0)))] ++ [(q23, .inl (ids.1, 8, .inl (fun _ => 0)))] ++ [(q31, .inl (ids.1, 8, .inl (fun _ => 0)))]) := hD
  refine W.widen (k := 4) (n := 32) (Nat.le_of_ble_eq_true rfl) (Nat.le_of_ble_eq_true rfl) ?_
  obtain ⟨a, ha⟩ : ∃ a : Nat → Nat, a = fun k => [h0, q7, q15, q23, q31].getD k 0 := ⟨_, rfl⟩
  have hP9 : va_P D acl (bw0 ids a) H := by rw [ha]; exact hP
  have hD9 : va_D A (bw0 ids a) := by rw [ha]; exact hD
  exact W.vret hx hb hr (fun t ht hW => ⟨⟨(), rfl, trivial, a, by rw [ha]; rfl, by rw [ht]; exact hP9, hD9⟩, hS.F ht⟩) hS.2.2 (show decode cX0_init 36 = .ok (.return_, 1) by decide +kernel)
def bw1 (ids : Ids) (a : Nat → Nat) : va_W := [(a 0, .inr (1, [.ref (a 1), .int 0])), (a 1, .inl (ids.1, 300, .inl (fun _ => 0)))]
theorem dfX1 : ∀ j, j < 2 → defaultValue (tyX1 j) = vp_V [.null, .int 0] j := by
  intro j hj
  match j, hj with
  | 0, _ => rfl
  | 1, _ => rfl
  | j + 2, h => omega
set_option maxHeartbeats 8000000 in
set_option maxRecDepth 100000 in
theorem ct1 (l : Launch) (D : va_G) (ids : Ids) (h0 sz : Nat) : Met l yX1_init (.code yX1_init cX1_init 1 none :: WS) { frames := 1, cells := 1, slots := 300, locals := 16 } (va_Pc [.ref h0] (fun U => U.heap.size = sz ∧ va_P D acl [(h0, .inr (1, [.null, .int 0]))] U.heap ∧ va_K D acl (atys ids) U ∧ va_D (fun _ => True) [(h0, .inr (1, [.null, .int 0]))] ∧ CO U)) (va_Qv (S := Unit) (fun _ => True) (fun _ t => ∃ a : Nat → Nat, a 0 = h0 ∧ va_P D acl (bw1 ids a) t.heap ∧ va_D (va_A [(h0, .inr (1, [.null, .int 0]))] sz) (bw1 ids a)) (va_A [(h0, .inr (1, [.null, .int 0]))] sz)) 1 300 (va_A [(h0, .inr (1, [.null, .int 0]))] sz) := by
  refine Met.ofW (cc := cX1_init) (maxL := 1) (ret := none) (by decide) rfl ?_
  intro p e s m args below meth c s₁ B hml hv
  obtain ⟨rfl, hsz, hP, hK, hD0, hO⟩ := hv
  have hx := B.exec
  have hb := B.bytes
  have hr := B.returns
  have hts := atoms_spec (ws := .code yX1_init cX1_init 1 none :: WS) B.pre
  have hown : s.vm.findClass RX1 = some m.cls := findClass_of_methodNamed B.named
  have hlocks := B.notSynchronized
  have hin : meth.name = "<init>" := (name_of_methodNamed B.named B.method).1
  subst hsz
  have hD := hD0.self (sz := s.heap.size)
  generalize hAe : va_A [(h0, .inr (1, [.null, .int 0]))] s.heap.size = A at hD ⊢
  have hA : ∀ q : Nat, s.heap.size ≤ q → A q := fun q h => by rw [← hAe]; exact Or.inr h
  have hS : va_S A s.heap s.heap [] := va_S.rf
  have hP : va_P D acl [(h0, .inr (1, [.null, .int 0]))] s.heap := hP
  have hl := lv_entry ([.ref h0]) (n := 1) (Nat.le_of_ble_eq_true rfl)
  rw [lg_entry_eq]
  generalize (lg_sl ([.ref h0]) ++ List.replicate (1 - (lg_sl ([.ref h0])).length) Slot.unset).toArray = ls at hl ⊢
  have hl : lv_has ls 1 [(0, .ref h0)] := hl
  refine lv_aload_n hx hb (show decode cX1_init 0 = .ok (.aload_n 0, 1) by decide +kernel) rfl (lv_at hl 0 rfl) ?_
  refine W.objInit hx hb hown (hts (.methodLink RX1 3 objectInit) (List.mem_cons_of_mem _ (wsm_1 (i := 203) rfl rfl))) (hts (.instanceMethod objectInit) (List.mem_cons_of_mem _ (wsm_1 (i := 30) rfl rfl))) (hts (.code objectInit ⟨#[0xb1]⟩ 1 none) (List.mem_cons_of_mem _ (wsm_1 (i := 31) rfl rfl))) rfl (by rw [hml]; exact hl.1) rfl (show decode cX1_init 1 = .ok (.invokespecial 3, 3) by decide +kernel) (Nat.le_of_ble_eq_true rfl) (Nat.le_of_ble_eq_true rfl) ?_
  refine W.eq (g2 := F0 m 4 ls []) rfl ?_
  refine lv_aload_n hx hb (show decode cX1_init 4 = .ok (.aload_n 0, 1) by decide +kernel) rfl (lv_at hl 0 rfl) ?_
  refine lv_sipush (v := 300) hx hb (show decode cX1_init 5 = .ok (.sipush 300, 3) by decide +kernel) (by decide) ?_
  refine va_newa (atype := .int) (ty := .int) (a0 := (300, (.inl (fun _ => 0)))) hx hb (hts (.arrayClass .int) (List.mem_cons_of_mem _ (wsm_1 (i := 93) rfl rfl))) rfl hK hP hD hS hA (N' := 300) (fun cA => rfl) (by decide) rfl (Nat.le_of_ble_eq_true rfl) (Nat.le_of_ble_eq_true rfl) (Nat.le_of_ble_eq_true rfl) (show decode cX1_init 8 = .ok (.newarray .int, 2) by decide +kernel) (fun q8 cA H hK1 hP hD hS => ?_)
  obtain rfl := ids_int hK1
  clear hK1
  have hP : va_P D acl ([(h0, .inr (1, [.null, .int 0]))] ++ [(q8, .inl (ids.1, 300, .inl (fun _ => 0)))]) H := hP
  have hD : va_D A ([(h0, .inr (1, [.null, .int 0]))] ++ [(q8, .inl (ids.1, 300, .inl (fun _ => 0)))]) := hD
  refine W.widen (k := 1) (n := 300) (Nat.le_of_ble_eq_true rfl) (Nat.le_of_ble_eq_true rfl) ?_
  refine va_putF (D := D) (ci := 1) (v := .ref q8) (ty := .array .int) (C := RX1) (T := TX1) (N := 2) hx hb hts (fun w hw => List.mem_cons_of_mem _ (uws_1 w hw)) tyX1 tyX1_ok nmX1 hown hK hP hD hS 0 rfl rfl 0 (by decide) (hts (.fieldLink RX1 9 "CoverFires$Laws" "stack" "[I") (List.mem_cons_of_mem _ (wsm_1 (i := 204) rfl rfl))) (fun _ h9 => h9) rfl hin rfl (by decide +kernel) rfl rfl (Nat.le_of_ble_eq_true rfl) (show decode cX1_init 10 = .ok (.putfield 9, 3) by decide +kernel) (fun H locs hP hD hS => ?_)
  have hP : va_P D acl ([(h0, .inr (1, [.ref q8, .int 0]))] ++ [(q8, .inl (ids.1, 300, .inl (fun _ => 0)))]) H := hP
  have hD : va_D A ([(h0, .inr (1, [.ref q8, .int 0]))] ++ [(q8, .inl (ids.1, 300, .inl (fun _ => 0)))]) := hD
  refine W.widen (k := 1) (n := 300) (Nat.le_of_ble_eq_true rfl) (Nat.le_of_ble_eq_true rfl) ?_
  obtain ⟨a, ha⟩ : ∃ a : Nat → Nat, a = fun k => [h0, q8].getD k 0 := ⟨_, rfl⟩
  have hP9 : va_P D acl (bw1 ids a) H := by rw [ha]; exact hP
  have hD9 : va_D A (bw1 ids a) := by rw [ha]; exact hD
  exact W.vret hx hb hr (fun t ht hW => ⟨⟨(), rfl, trivial, a, by rw [ha]; rfl, by rw [ht]; exact hP9, hD9⟩, hS.F ht⟩) hS.2.2 (show decode cX1_init 13 = .ok (.return_, 1) by decide +kernel)
def bw2 (ids : Ids) (a : Nat → Nat) : va_W := [(a 0, .inr (2, [.ref (a 1), .ref (a 2), .int 0, .int 0])), (a 1, .inl (ids.2.1, 8, .inr (.inl (fun _ => 0)))), (a 2, .inl (ids.2.1, 8, .inr (.inl (fun _ => 0))))]
theorem dfX2 : ∀ j, j < 4 → defaultValue (tyX2 j) = vp_V [.null, .null, .int 0, .int 0] j := by
  intro j hj
  match j, hj with
  | 0, _ => rfl
  | 1, _ => rfl
  | 2, _ => rfl
  | 3, _ => rfl
  | j + 4, h => omega
set_option maxHeartbeats 8000000 in
set_option maxRecDepth 100000 in
theorem ct2 (l : Launch) (D : va_G) (ids : Ids) (h0 sz : Nat) : Met l yX2_init (.code yX2_init cX2_init 1 none :: WS) { frames := 1, cells := 2, slots := 16, locals := 16 } (va_Pc [.ref h0] (fun U => U.heap.size = sz ∧ va_P D acl [(h0, .inr (2, [.null, .null, .int 0, .int 0]))] U.heap ∧ va_K D acl (atys ids) U ∧ va_D (fun _ => True) [(h0, .inr (2, [.null, .null, .int 0, .int 0]))] ∧ CO U)) (va_Qv (S := Unit) (fun _ => True) (fun _ t => ∃ a : Nat → Nat, a 0 = h0 ∧ va_P D acl (bw2 ids a) t.heap ∧ va_D (va_A [(h0, .inr (2, [.null, .null, .int 0, .int 0]))] sz) (bw2 ids a)) (va_A [(h0, .inr (2, [.null, .null, .int 0, .int 0]))] sz)) 2 16 (va_A [(h0, .inr (2, [.null, .null, .int 0, .int 0]))] sz) := by
  refine Met.ofW (cc := cX2_init) (maxL := 1) (ret := none) (by decide) rfl ?_
  intro p e s m args below meth c s₁ B hml hv
  obtain ⟨rfl, hsz, hP, hK, hD0, hO⟩ := hv
  have hx := B.exec
  have hb := B.bytes
  have hr := B.returns
  have hts := atoms_spec (ws := .code yX2_init cX2_init 1 none :: WS) B.pre
  have hown : s.vm.findClass RX2 = some m.cls := findClass_of_methodNamed B.named
  have hlocks := B.notSynchronized
  have hin : meth.name = "<init>" := (name_of_methodNamed B.named B.method).1
  subst hsz
  have hD := hD0.self (sz := s.heap.size)
  generalize hAe : va_A [(h0, .inr (2, [.null, .null, .int 0, .int 0]))] s.heap.size = A at hD ⊢
  have hA : ∀ q : Nat, s.heap.size ≤ q → A q := fun q h => by rw [← hAe]; exact Or.inr h
  have hS : va_S A s.heap s.heap [] := va_S.rf
  have hP : va_P D acl [(h0, .inr (2, [.null, .null, .int 0, .int 0]))] s.heap := hP
  have hl := lv_entry ([.ref h0]) (n := 1) (Nat.le_of_ble_eq_true rfl)
  rw [lg_entry_eq]
  generalize (lg_sl ([.ref h0]) ++ List.replicate (1 - (lg_sl ([.ref h0])).length) Slot.unset).toArray = ls at hl ⊢
  have hl : lv_has ls 1 [(0, .ref h0)] := hl
  refine lv_aload_n hx hb (show decode cX2_init 0 = .ok (.aload_n 0, 1) by decide +kernel) rfl (lv_at hl 0 rfl) ?_
  refine W.objInit hx hb hown (hts (.methodLink RX2 3 objectInit) (List.mem_cons_of_mem _ (wsm_2 (i := 87) rfl rfl))) (hts (.instanceMethod objectInit) (List.mem_cons_of_mem _ (wsm_1 (i := 30) rfl rfl))) (hts (.code objectInit ⟨#[0xb1]⟩ 1 none) (List.mem_cons_of_mem _ (wsm_1 (i := 31) rfl rfl))) rfl (by rw [hml]; exact hl.1) rfl (show decode cX2_init 1 = .ok (.invokespecial 3, 3) by decide +kernel) (Nat.le_of_ble_eq_true rfl) (Nat.le_of_ble_eq_true rfl) ?_
  refine W.eq (g2 := F0 m 4 ls []) rfl ?_
  refine lv_aload_n hx hb (show decode cX2_init 4 = .ok (.aload_n 0, 1) by decide +kernel) rfl (lv_at hl 0 rfl) ?_
  refine lv_bipush (v := 8) hx hb (show decode cX2_init 5 = .ok (.bipush 8, 2) by decide +kernel) (by decide) ?_
  refine va_newa (atype := .long) (ty := .long) (a0 := (8, (.inr (.inl (fun _ => 0))))) hx hb (hts (.arrayClass .long) (List.mem_cons_of_mem _ (wsm_2 (i := 101) rfl rfl))) rfl hK hP hD hS hA (N' := 8) (fun cA => rfl) (by decide) rfl (Nat.le_of_ble_eq_true rfl) (Nat.le_of_ble_eq_true rfl) (Nat.le_of_ble_eq_true rfl) (show decode cX2_init 7 = .ok (.newarray .long, 2) by decide +kernel) (fun q7 cA H hK1 hP hD hS => ?_)
  obtain rfl := ids_long hK1
  clear hK1
  have hP : va_P D acl ([(h0, .inr (2, [.null, .null, .int 0, .int 0]))] ++ [(q7, .inl (ids.2.1, 8, .inr (.inl (fun _ => 0))))]) H := hP
  have hD : va_D A ([(h0, .inr (2, [.null, .null, .int 0, .int 0]))] ++ [(q7, .inl (ids.2.1, 8, .inr (.inl (fun _ => 0))))]) := hD
  refine W.widen (k := 1) (n := 8) (Nat.le_of_ble_eq_true rfl) (Nat.le_of_ble_eq_true rfl) ?_
  refine va_putF (D := D) (ci := 2) (v := .ref q7) (ty := .array .long) (C := RX2) (T := TX2) (N := 4) hx hb hts (fun w hw => List.mem_cons_of_mem _ (uws_2 w hw)) tyX2 tyX2_ok nmX2 hown hK hP hD hS 0 rfl rfl 0 (by decide) (hts (.fieldLink RX2 9 "CoverFires$Origin" "low" "[J") (List.mem_cons_of_mem _ (wsm_2 (i := 88) rfl rfl))) (fun _ h9 => h9) rfl hin rfl (by decide +kernel) rfl rfl (Nat.le_of_ble_eq_true rfl) (show decode cX2_init 9 = .ok (.putfield 9, 3) by decide +kernel) (fun H locs hP hD hS => ?_)
  have hP : va_P D acl ([(h0, .inr (2, [.ref q7, .null, .int 0, .int 0]))] ++ [(q7, .inl (ids.2.1, 8, .inr (.inl (fun _ => 0))))]) H := hP
  have hD : va_D A ([(h0, .inr (2, [.ref q7, .null, .int 0, .int 0]))] ++ [(q7, .inl (ids.2.1, 8, .inr (.inl (fun _ => 0))))]) := hD
  refine lv_aload_n hx hb (show decode cX2_init 12 = .ok (.aload_n 0, 1) by decide +kernel) rfl (lv_at hl 0 rfl) ?_
  refine lv_bipush (v := 8) hx hb (show decode cX2_init 13 = .ok (.bipush 8, 2) by decide +kernel) (by decide) ?_
  refine va_newa (atype := .long) (ty := .long) (a0 := (8, (.inr (.inl (fun _ => 0))))) hx hb (hts (.arrayClass .long) (List.mem_cons_of_mem _ (wsm_2 (i := 101) rfl rfl))) rfl hK hP hD hS hA (N' := 8) (fun cA => rfl) (by decide) rfl (Nat.le_of_ble_eq_true rfl) (Nat.le_of_ble_eq_true rfl) (Nat.le_of_ble_eq_true rfl) (show decode cX2_init 15 = .ok (.newarray .long, 2) by decide +kernel) (fun q15 cA H hK1 hP hD hS => ?_)
  obtain rfl := ids_long hK1
  clear hK1
  have hP : va_P D acl ([(h0, .inr (2, [.ref q7, .null, .int 0, .int 0]))] ++ [(q7, .inl (ids.2.1, 8, .inr (.inl (fun _ => 0))))] ++ [(q15, .inl (ids.2.1, 8, .inr (.inl (fun _ => 0))))]) H := hP
  have hD : va_D A ([(h0, .inr (2, [.ref q7, .null, .int 0, .int 0]))] ++ [(q7, .inl (ids.2.1, 8, .inr (.inl (fun _ => 0))))] ++ [(q15, .inl (ids.2.1, 8, .inr (.inl (fun _ => 0))))]) := hD
  refine W.widen (k := 2) (n := 16) (Nat.le_of_ble_eq_true rfl) (Nat.le_of_ble_eq_true rfl) ?_
  refine va_putF (D := D) (ci := 2) (v := .ref q15) (ty := .array .long) (C := RX2) (T := TX2) (N := 4) hx hb hts (fun w hw => List.mem_cons_of_mem _ (uws_2 w hw)) tyX2 tyX2_ok nmX2 hown hK hP hD hS 0 rfl rfl 1 (by decide) (hts (.fieldLink RX2 15 "CoverFires$Origin" "high" "[J") (List.mem_cons_of_mem _ (wsm_2 (i := 89) rfl rfl))) (fun _ h9 => h9) rfl hin rfl (by decide +kernel) rfl rfl (Nat.le_of_ble_eq_true rfl) (show decode cX2_init 17 = .ok (.putfield 15, 3) by decide +kernel) (fun H locs hP hD hS => ?_)
  have hP : va_P D acl ([(h0, .inr (2, [.ref q7, .ref q15, .int 0, .int 0]))] ++ [(q7, .inl (ids.2.1, 8, .inr (.inl (fun _ => 0))))] ++ [(q15, .inl (ids.2.1, 8, .inr (.inl (fun _ => 0))))]) H := hP
  have hD : va_D A ([(h0, .inr (2, [.ref q7, .ref q15, .int 0, .int 0]))] ++ [(q7, .inl (ids.2.1, 8, .inr (.inl (fun _ => 0))))] ++ [(q15, .inl (ids.2.1, 8, .inr (.inl (fun _ => 0))))]) := hD
  refine W.widen (k := 2) (n := 16) (Nat.le_of_ble_eq_true rfl) (Nat.le_of_ble_eq_true rfl) ?_
  obtain ⟨a, ha⟩ : ∃ a : Nat → Nat, a = fun k => [h0, q7, q15].getD k 0 := ⟨_, rfl⟩
  have hP9 : va_P D acl (bw2 ids a) H := by rw [ha]; exact hP
  have hD9 : va_D A (bw2 ids a) := by rw [ha]; exact hD
  exact W.vret hx hb hr (fun t ht hW => ⟨⟨(), rfl, trivial, a, by rw [ha]; rfl, by rw [ht]; exact hP9, hD9⟩, hS.F ht⟩) hS.2.2 (show decode cX2_init 20 = .ok (.return_, 1) by decide +kernel)
def bw4 (ids : Ids) (a : Nat → Nat) : va_W := [(a 0, .inr (4, [.ref (a 1), .int 0, .int 0])), (a 1, .inl (ids.1, 1770, .inl (fun _ => 0)))]
theorem dfX4 : ∀ j, j < 3 → defaultValue (tyX4 j) = vp_V [.null, .int 0, .int 0] j := by
  intro j hj
  match j, hj with
  | 0, _ => rfl
  | 1, _ => rfl
  | 2, _ => rfl
  | j + 3, h => omega
set_option maxHeartbeats 8000000 in
set_option maxRecDepth 100000 in
theorem ct4 (l : Launch) (D : va_G) (ids : Ids) (h0 sz : Nat) : Met l yX4_init (.code yX4_init cX4_init 1 none :: WS) { frames := 1, cells := 1, slots := 1770, locals := 16 } (va_Pc [.ref h0] (fun U => U.heap.size = sz ∧ va_P D acl [(h0, .inr (4, [.null, .int 0, .int 0]))] U.heap ∧ va_K D acl (atys ids) U ∧ va_D (fun _ => True) [(h0, .inr (4, [.null, .int 0, .int 0]))] ∧ CO U)) (va_Qv (S := Unit) (fun _ => True) (fun _ t => ∃ a : Nat → Nat, a 0 = h0 ∧ va_P D acl (bw4 ids a) t.heap ∧ va_D (va_A [(h0, .inr (4, [.null, .int 0, .int 0]))] sz) (bw4 ids a)) (va_A [(h0, .inr (4, [.null, .int 0, .int 0]))] sz)) 1 1770 (va_A [(h0, .inr (4, [.null, .int 0, .int 0]))] sz) := by
  refine Met.ofW (cc := cX4_init) (maxL := 1) (ret := none) (by decide) rfl ?_
  intro p e s m args below meth c s₁ B hml hv
  obtain ⟨rfl, hsz, hP, hK, hD0, hO⟩ := hv
  have hx := B.exec
  have hb := B.bytes
  have hr := B.returns
  have hts := atoms_spec (ws := .code yX4_init cX4_init 1 none :: WS) B.pre
  have hown : s.vm.findClass RX4 = some m.cls := findClass_of_methodNamed B.named
  have hlocks := B.notSynchronized
  have hin : meth.name = "<init>" := (name_of_methodNamed B.named B.method).1
  subst hsz
  have hD := hD0.self (sz := s.heap.size)
  generalize hAe : va_A [(h0, .inr (4, [.null, .int 0, .int 0]))] s.heap.size = A at hD ⊢
  have hA : ∀ q : Nat, s.heap.size ≤ q → A q := fun q h => by rw [← hAe]; exact Or.inr h
  have hS : va_S A s.heap s.heap [] := va_S.rf
  have hP : va_P D acl [(h0, .inr (4, [.null, .int 0, .int 0]))] s.heap := hP
  have hl := lv_entry ([.ref h0]) (n := 1) (Nat.le_of_ble_eq_true rfl)
  rw [lg_entry_eq]
  generalize (lg_sl ([.ref h0]) ++ List.replicate (1 - (lg_sl ([.ref h0])).length) Slot.unset).toArray = ls at hl ⊢
  have hl : lv_has ls 1 [(0, .ref h0)] := hl
  refine lv_aload_n hx hb (show decode cX4_init 0 = .ok (.aload_n 0, 1) by decide +kernel) rfl (lv_at hl 0 rfl) ?_
  refine W.objInit hx hb hown (hts (.methodLink RX4 1 objectInit) (List.mem_cons_of_mem _ (wsm_1 (i := 116) rfl rfl))) (hts (.instanceMethod objectInit) (List.mem_cons_of_mem _ (wsm_1 (i := 30) rfl rfl))) (hts (.code objectInit ⟨#[0xb1]⟩ 1 none) (List.mem_cons_of_mem _ (wsm_1 (i := 31) rfl rfl))) rfl (by rw [hml]; exact hl.1) rfl (show decode cX4_init 1 = .ok (.invokespecial 1, 3) by decide +kernel) (Nat.le_of_ble_eq_true rfl) (Nat.le_of_ble_eq_true rfl) ?_
  refine W.eq (g2 := F0 m 4 ls []) rfl ?_
  refine lv_aload_n hx hb (show decode cX4_init 4 = .ok (.aload_n 0, 1) by decide +kernel) rfl (lv_at hl 0 rfl) ?_
  refine lv_sipush (v := 1770) hx hb (show decode cX4_init 5 = .ok (.sipush 1770, 3) by decide +kernel) (by decide) ?_
  refine va_newa (atype := .int) (ty := .int) (a0 := (1770, (.inl (fun _ => 0)))) hx hb (hts (.arrayClass .int) (List.mem_cons_of_mem _ (wsm_1 (i := 93) rfl rfl))) rfl hK hP hD hS hA (N' := 1770) (fun cA => rfl) (by decide) rfl (Nat.le_of_ble_eq_true rfl) (Nat.le_of_ble_eq_true rfl) (Nat.le_of_ble_eq_true rfl) (show decode cX4_init 8 = .ok (.newarray .int, 2) by decide +kernel) (fun q8 cA H hK1 hP hD hS => ?_)
  obtain rfl := ids_int hK1
  clear hK1
  have hP : va_P D acl ([(h0, .inr (4, [.null, .int 0, .int 0]))] ++ [(q8, .inl (ids.1, 1770, .inl (fun _ => 0)))]) H := hP
  have hD : va_D A ([(h0, .inr (4, [.null, .int 0, .int 0]))] ++ [(q8, .inl (ids.1, 1770, .inl (fun _ => 0)))]) := hD
  refine W.widen (k := 1) (n := 1770) (Nat.le_of_ble_eq_true rfl) (Nat.le_of_ble_eq_true rfl) ?_
  refine va_putF (D := D) (ci := 4) (v := .ref q8) (ty := .array .int) (C := RX4) (T := TX4) (N := 3) hx hb hts (fun w hw => List.mem_cons_of_mem _ (uws_4 w hw)) tyX4 tyX4_ok nmX4 hown hK hP hD hS 0 rfl rfl 0 (by decide) (hts (.fieldLink RX4 11 "CoverFires$Steps" "rows" "[I") (List.mem_cons_of_mem _ (wsm_1 (i := 117) rfl rfl))) (fun _ h9 => h9) rfl hin rfl (by decide +kernel) rfl rfl (Nat.le_of_ble_eq_true rfl) (show decode cX4_init 10 = .ok (.putfield 11, 3) by decide +kernel) (fun H locs hP hD hS => ?_)
  have hP : va_P D acl ([(h0, .inr (4, [.ref q8, .int 0, .int 0]))] ++ [(q8, .inl (ids.1, 1770, .inl (fun _ => 0)))]) H := hP
  have hD : va_D A ([(h0, .inr (4, [.ref q8, .int 0, .int 0]))] ++ [(q8, .inl (ids.1, 1770, .inl (fun _ => 0)))]) := hD
  refine W.widen (k := 1) (n := 1770) (Nat.le_of_ble_eq_true rfl) (Nat.le_of_ble_eq_true rfl) ?_
  obtain ⟨a, ha⟩ : ∃ a : Nat → Nat, a = fun k => [h0, q8].getD k 0 := ⟨_, rfl⟩
  have hP9 : va_P D acl (bw4 ids a) H := by rw [ha]; exact hP
  have hD9 : va_D A (bw4 ids a) := by rw [ha]; exact hD
  exact W.vret hx hb hr (fun t ht hW => ⟨⟨(), rfl, trivial, a, by rw [ha]; rfl, by rw [ht]; exact hP9, hD9⟩, hS.F ht⟩) hS.2.2 (show decode cX4_init 13 = .ok (.return_, 1) by decide +kernel)
def bw5 (ids : Ids) (a : Nat → Nat) : va_W := [(a 0, .inr (5, [.ref (a 1), .ref (a 2)])), (a 1, .inl (ids.1, 64, .inl (fun _ => 0))), (a 2, .inl (ids.1, 8, .inl (fun _ => 0)))]
theorem dfX5 : ∀ j, j < 2 → defaultValue (tyX5 j) = vp_V [.null, .null] j := by
  intro j hj
  match j, hj with
  | 0, _ => rfl
  | 1, _ => rfl
  | j + 2, h => omega
set_option maxHeartbeats 8000000 in
set_option maxRecDepth 100000 in
theorem ct5 (l : Launch) (D : va_G) (ids : Ids) (h0 sz : Nat) : Met l yX5_init (.code yX5_init cX5_init 1 none :: WS) { frames := 1, cells := 2, slots := 72, locals := 16 } (va_Pc [.ref h0] (fun U => U.heap.size = sz ∧ va_P D acl [(h0, .inr (5, [.null, .null]))] U.heap ∧ va_K D acl (atys ids) U ∧ va_D (fun _ => True) [(h0, .inr (5, [.null, .null]))] ∧ CO U)) (va_Qv (S := Unit) (fun _ => True) (fun _ t => ∃ a : Nat → Nat, a 0 = h0 ∧ va_P D acl (bw5 ids a) t.heap ∧ va_D (va_A [(h0, .inr (5, [.null, .null]))] sz) (bw5 ids a)) (va_A [(h0, .inr (5, [.null, .null]))] sz)) 2 72 (va_A [(h0, .inr (5, [.null, .null]))] sz) := by
  refine Met.ofW (cc := cX5_init) (maxL := 1) (ret := none) (by decide) rfl ?_
  intro p e s m args below meth c s₁ B hml hv
  obtain ⟨rfl, hsz, hP, hK, hD0, hO⟩ := hv
  have hx := B.exec
  have hb := B.bytes
  have hr := B.returns
  have hts := atoms_spec (ws := .code yX5_init cX5_init 1 none :: WS) B.pre
  have hown : s.vm.findClass RX5 = some m.cls := findClass_of_methodNamed B.named
  have hlocks := B.notSynchronized
  have hin : meth.name = "<init>" := (name_of_methodNamed B.named B.method).1
  subst hsz
  have hD := hD0.self (sz := s.heap.size)
  generalize hAe : va_A [(h0, .inr (5, [.null, .null]))] s.heap.size = A at hD ⊢
  have hA : ∀ q : Nat, s.heap.size ≤ q → A q := fun q h => by rw [← hAe]; exact Or.inr h
  have hS : va_S A s.heap s.heap [] := va_S.rf
  have hP : va_P D acl [(h0, .inr (5, [.null, .null]))] s.heap := hP
  have hl := lv_entry ([.ref h0]) (n := 1) (Nat.le_of_ble_eq_true rfl)
  rw [lg_entry_eq]
  generalize (lg_sl ([.ref h0]) ++ List.replicate (1 - (lg_sl ([.ref h0])).length) Slot.unset).toArray = ls at hl ⊢
  have hl : lv_has ls 1 [(0, .ref h0)] := hl
  refine lv_aload_n hx hb (show decode cX5_init 0 = .ok (.aload_n 0, 1) by decide +kernel) rfl (lv_at hl 0 rfl) ?_
  refine W.objInit hx hb hown (hts (.methodLink RX5 3 objectInit) (List.mem_cons_of_mem _ (wsm_1 (i := 99) rfl rfl))) (hts (.instanceMethod objectInit) (List.mem_cons_of_mem _ (wsm_1 (i := 30) rfl rfl))) (hts (.code objectInit ⟨#[0xb1]⟩ 1 none) (List.mem_cons_of_mem _ (wsm_1 (i := 31) rfl rfl))) rfl (by rw [hml]; exact hl.1) rfl (show decode cX5_init 1 = .ok (.invokespecial 3, 3) by decide +kernel) (Nat.le_of_ble_eq_true rfl) (Nat.le_of_ble_eq_true rfl) ?_
  refine W.eq (g2 := F0 m 4 ls []) rfl ?_
  refine lv_aload_n hx hb (show decode cX5_init 4 = .ok (.aload_n 0, 1) by decide +kernel) rfl (lv_at hl 0 rfl) ?_
  refine lv_bipush (v := 64) hx hb (show decode cX5_init 5 = .ok (.bipush 64, 2) by decide +kernel) (by decide) ?_
  refine va_newa (atype := .int) (ty := .int) (a0 := (64, (.inl (fun _ => 0)))) hx hb (hts (.arrayClass .int) (List.mem_cons_of_mem _ (wsm_1 (i := 93) rfl rfl))) rfl hK hP hD hS hA (N' := 64) (fun cA => rfl) (by decide) rfl (Nat.le_of_ble_eq_true rfl) (Nat.le_of_ble_eq_true rfl) (Nat.le_of_ble_eq_true rfl) (show decode cX5_init 7 = .ok (.newarray .int, 2) by decide +kernel) (fun q7 cA H hK1 hP hD hS => ?_)
  obtain rfl := ids_int hK1
  clear hK1
  have hP : va_P D acl ([(h0, .inr (5, [.null, .null]))] ++ [(q7, .inl (ids.1, 64, .inl (fun _ => 0)))]) H := hP
  have hD : va_D A ([(h0, .inr (5, [.null, .null]))] ++ [(q7, .inl (ids.1, 64, .inl (fun _ => 0)))]) := hD
  refine W.widen (k := 1) (n := 64) (Nat.le_of_ble_eq_true rfl) (Nat.le_of_ble_eq_true rfl) ?_
  refine va_putF (D := D) (ci := 5) (v := .ref q7) (ty := .array .int) (C := RX5) (T := TX5) (N := 2) hx hb hts (fun w hw => List.mem_cons_of_mem _ (uws_5 w hw)) tyX5 tyX5_ok nmX5 hown hK hP hD hS 0 rfl rfl 0 (by decide) (hts (.fieldLink RX5 9 "CoverFires$Streets" "lengths" "[I") (List.mem_cons_of_mem _ (wsm_1 (i := 100) rfl rfl))) (fun _ h9 => h9) rfl hin rfl (by decide +kernel) rfl rfl (Nat.le_of_ble_eq_true rfl) (show decode cX5_init 9 = .ok (.putfield 9, 3) by decide +kernel) (fun H locs hP hD hS => ?_)
  have hP : va_P D acl ([(h0, .inr (5, [.ref q7, .null]))] ++ [(q7, .inl (ids.1, 64, .inl (fun _ => 0)))]) H := hP
  have hD : va_D A ([(h0, .inr (5, [.ref q7, .null]))] ++ [(q7, .inl (ids.1, 64, .inl (fun _ => 0)))]) := hD
  refine lv_aload_n hx hb (show decode cX5_init 12 = .ok (.aload_n 0, 1) by decide +kernel) rfl (lv_at hl 0 rfl) ?_
  refine lv_bipush (v := 8) hx hb (show decode cX5_init 13 = .ok (.bipush 8, 2) by decide +kernel) (by decide) ?_
  refine va_newa (atype := .int) (ty := .int) (a0 := (8, (.inl (fun _ => 0)))) hx hb (hts (.arrayClass .int) (List.mem_cons_of_mem _ (wsm_1 (i := 93) rfl rfl))) rfl hK hP hD hS hA (N' := 8) (fun cA => rfl) (by decide) rfl (Nat.le_of_ble_eq_true rfl) (Nat.le_of_ble_eq_true rfl) (Nat.le_of_ble_eq_true rfl) (show decode cX5_init 15 = .ok (.newarray .int, 2) by decide +kernel) (fun q15 cA H hK1 hP hD hS => ?_)
  obtain rfl := ids_int hK1
  clear hK1
  have hP : va_P D acl ([(h0, .inr (5, [.ref q7, .null]))] ++ [(q7, .inl (ids.1, 64, .inl (fun _ => 0)))] ++ [(q15, .inl (ids.1, 8, .inl (fun _ => 0)))]) H := hP
  have hD : va_D A ([(h0, .inr (5, [.ref q7, .null]))] ++ [(q7, .inl (ids.1, 64, .inl (fun _ => 0)))] ++ [(q15, .inl (ids.1, 8, .inl (fun _ => 0)))]) := hD
  refine W.widen (k := 2) (n := 72) (Nat.le_of_ble_eq_true rfl) (Nat.le_of_ble_eq_true rfl) ?_
  refine va_putF (D := D) (ci := 5) (v := .ref q15) (ty := .array .int) (C := RX5) (T := TX5) (N := 2) hx hb hts (fun w hw => List.mem_cons_of_mem _ (uws_5 w hw)) tyX5 tyX5_ok nmX5 hown hK hP hD hS 0 rfl rfl 1 (by decide) (hts (.fieldLink RX5 15 "CoverFires$Streets" "beside" "[I") (List.mem_cons_of_mem _ (wsm_1 (i := 102) rfl rfl))) (fun _ h9 => h9) rfl hin rfl (by decide +kernel) rfl rfl (Nat.le_of_ble_eq_true rfl) (show decode cX5_init 17 = .ok (.putfield 15, 3) by decide +kernel) (fun H locs hP hD hS => ?_)
  have hP : va_P D acl ([(h0, .inr (5, [.ref q7, .ref q15]))] ++ [(q7, .inl (ids.1, 64, .inl (fun _ => 0)))] ++ [(q15, .inl (ids.1, 8, .inl (fun _ => 0)))]) H := hP
  have hD : va_D A ([(h0, .inr (5, [.ref q7, .ref q15]))] ++ [(q7, .inl (ids.1, 64, .inl (fun _ => 0)))] ++ [(q15, .inl (ids.1, 8, .inl (fun _ => 0)))]) := hD
  refine W.widen (k := 2) (n := 72) (Nat.le_of_ble_eq_true rfl) (Nat.le_of_ble_eq_true rfl) ?_
  obtain ⟨a, ha⟩ : ∃ a : Nat → Nat, a = fun k => [h0, q7, q15].getD k 0 := ⟨_, rfl⟩
  have hP9 : va_P D acl (bw5 ids a) H := by rw [ha]; exact hP
  have hD9 : va_D A (bw5 ids a) := by rw [ha]; exact hD
  exact W.vret hx hb hr (fun t ht hW => ⟨⟨(), rfl, trivial, a, by rw [ha]; rfl, by rw [ht]; exact hP9, hD9⟩, hS.F ht⟩) hS.2.2 (show decode cX5_init 20 = .ok (.return_, 1) by decide +kernel)
def bw7 (ids : Ids) (a : Nat → Nat) : va_W := [(a 0, .inr (7, [.ref (a 1), .ref (a 2), .ref (a 3), .int 0])), (a 1, .inl (ids.1, 301, .inl (fun _ => 0))), (a 2, .inl (ids.1, 301, .inl (fun _ => 0))), (a 3, .inl (ids.1, 301, .inl (fun _ => 0)))]
theorem dfX7 : ∀ j, j < 4 → defaultValue (tyX7 j) = vp_V [.null, .null, .null, .int 0] j := by
  intro j hj
  match j, hj with
  | 0, _ => rfl
  | 1, _ => rfl
  | 2, _ => rfl
  | 3, _ => rfl
  | j + 4, h => omega
set_option maxHeartbeats 8000000 in
set_option maxRecDepth 100000 in
theorem ct7 (l : Launch) (D : va_G) (ids : Ids) (h0 sz : Nat) : Met l yX7_init (.code yX7_init cX7_init 1 none :: WS) { frames := 1, cells := 3, slots := 903, locals := 16 } (va_Pc [.ref h0] (fun U => U.heap.size = sz ∧ va_P D acl [(h0, .inr (7, [.null, .null, .null, .int 0]))] U.heap ∧ va_K D acl (atys ids) U ∧ va_D (fun _ => True) [(h0, .inr (7, [.null, .null, .null, .int 0]))] ∧ CO U)) (va_Qv (S := Unit) (fun _ => True) (fun _ t => ∃ a : Nat → Nat, a 0 = h0 ∧ va_P D acl (bw7 ids a) t.heap ∧ va_D (va_A [(h0, .inr (7, [.null, .null, .null, .int 0]))] sz) (bw7 ids a)) (va_A [(h0, .inr (7, [.null, .null, .null, .int 0]))] sz)) 3 903 (va_A [(h0, .inr (7, [.null, .null, .null, .int 0]))] sz) := by
  refine Met.ofW (cc := cX7_init) (maxL := 1) (ret := none) (by decide) rfl ?_
  intro p e s m args below meth c s₁ B hml hv
  obtain ⟨rfl, hsz, hP, hK, hD0, hO⟩ := hv
  have hx := B.exec
  have hb := B.bytes
  have hr := B.returns
  have hts := atoms_spec (ws := .code yX7_init cX7_init 1 none :: WS) B.pre
  have hown : s.vm.findClass RX7 = some m.cls := findClass_of_methodNamed B.named
  have hlocks := B.notSynchronized
  have hin : meth.name = "<init>" := (name_of_methodNamed B.named B.method).1
  subst hsz
  have hD := hD0.self (sz := s.heap.size)
  generalize hAe : va_A [(h0, .inr (7, [.null, .null, .null, .int 0]))] s.heap.size = A at hD ⊢
  have hA : ∀ q : Nat, s.heap.size ≤ q → A q := fun q h => by rw [← hAe]; exact Or.inr h
  have hS : va_S A s.heap s.heap [] := va_S.rf
  have hP : va_P D acl [(h0, .inr (7, [.null, .null, .null, .int 0]))] s.heap := hP
  have hl := lv_entry ([.ref h0]) (n := 1) (Nat.le_of_ble_eq_true rfl)
  rw [lg_entry_eq]
  generalize (lg_sl ([.ref h0]) ++ List.replicate (1 - (lg_sl ([.ref h0])).length) Slot.unset).toArray = ls at hl ⊢
  have hl : lv_has ls 1 [(0, .ref h0)] := hl
  refine lv_aload_n hx hb (show decode cX7_init 0 = .ok (.aload_n 0, 1) by decide +kernel) rfl (lv_at hl 0 rfl) ?_
  refine W.objInit hx hb hown (hts (.methodLink RX7 3 objectInit) (List.mem_cons_of_mem _ (wsm_1 (i := 222) rfl rfl))) (hts (.instanceMethod objectInit) (List.mem_cons_of_mem _ (wsm_1 (i := 30) rfl rfl))) (hts (.code objectInit ⟨#[0xb1]⟩ 1 none) (List.mem_cons_of_mem _ (wsm_1 (i := 31) rfl rfl))) rfl (by rw [hml]; exact hl.1) rfl (show decode cX7_init 1 = .ok (.invokespecial 3, 3) by decide +kernel) (Nat.le_of_ble_eq_true rfl) (Nat.le_of_ble_eq_true rfl) ?_
  refine W.eq (g2 := F0 m 4 ls []) rfl ?_
  refine lv_aload_n hx hb (show decode cX7_init 4 = .ok (.aload_n 0, 1) by decide +kernel) rfl (lv_at hl 0 rfl) ?_
  refine lv_sipush (v := 301) hx hb (show decode cX7_init 5 = .ok (.sipush 301, 3) by decide +kernel) (by decide) ?_
  refine va_newa (atype := .int) (ty := .int) (a0 := (301, (.inl (fun _ => 0)))) hx hb (hts (.arrayClass .int) (List.mem_cons_of_mem _ (wsm_1 (i := 93) rfl rfl))) rfl hK hP hD hS hA (N' := 301) (fun cA => rfl) (by decide) rfl (Nat.le_of_ble_eq_true rfl) (Nat.le_of_ble_eq_true rfl) (Nat.le_of_ble_eq_true rfl) (show decode cX7_init 8 = .ok (.newarray .int, 2) by decide +kernel) (fun q8 cA H hK1 hP hD hS => ?_)
  obtain rfl := ids_int hK1
  clear hK1
  have hP : va_P D acl ([(h0, .inr (7, [.null, .null, .null, .int 0]))] ++ [(q8, .inl (ids.1, 301, .inl (fun _ => 0)))]) H := hP
  have hD : va_D A ([(h0, .inr (7, [.null, .null, .null, .int 0]))] ++ [(q8, .inl (ids.1, 301, .inl (fun _ => 0)))]) := hD
  refine W.widen (k := 1) (n := 301) (Nat.le_of_ble_eq_true rfl) (Nat.le_of_ble_eq_true rfl) ?_
  refine va_putF (D := D) (ci := 7) (v := .ref q8) (ty := .array .int) (C := RX7) (T := TX7) (N := 4) hx hb hts (fun w hw => List.mem_cons_of_mem _ (uws_7 w hw)) tyX7 tyX7_ok nmX7 hown hK hP hD hS 0 rfl rfl 0 (by decide) (hts (.fieldLink RX7 9 "CoverFires$Tokens" "kinds" "[I") (List.mem_cons_of_mem _ (wsm_1 (i := 223) rfl rfl))) (fun _ h9 => h9) rfl hin rfl (by decide +kernel) rfl rfl (Nat.le_of_ble_eq_true rfl) (show decode cX7_init 10 = .ok (.putfield 9, 3) by decide +kernel) (fun H locs hP hD hS => ?_)
  have hP : va_P D acl ([(h0, .inr (7, [.ref q8, .null, .null, .int 0]))] ++ [(q8, .inl (ids.1, 301, .inl (fun _ => 0)))]) H := hP
  have hD : va_D A ([(h0, .inr (7, [.ref q8, .null, .null, .int 0]))] ++ [(q8, .inl (ids.1, 301, .inl (fun _ => 0)))]) := hD
  refine lv_aload_n hx hb (show decode cX7_init 13 = .ok (.aload_n 0, 1) by decide +kernel) rfl (lv_at hl 0 rfl) ?_
  refine lv_sipush (v := 301) hx hb (show decode cX7_init 14 = .ok (.sipush 301, 3) by decide +kernel) (by decide) ?_
  refine va_newa (atype := .int) (ty := .int) (a0 := (301, (.inl (fun _ => 0)))) hx hb (hts (.arrayClass .int) (List.mem_cons_of_mem _ (wsm_1 (i := 93) rfl rfl))) rfl hK hP hD hS hA (N' := 301) (fun cA => rfl) (by decide) rfl (Nat.le_of_ble_eq_true rfl) (Nat.le_of_ble_eq_true rfl) (Nat.le_of_ble_eq_true rfl) (show decode cX7_init 17 = .ok (.newarray .int, 2) by decide +kernel) (fun q17 cA H hK1 hP hD hS => ?_)
  obtain rfl := ids_int hK1
  clear hK1
  have hP : va_P D acl ([(h0, .inr (7, [.ref q8, .null, .null, .int 0]))] ++ [(q8, .inl (ids.1, 301, .inl (fun _ => 0)))] ++ [(q17, .inl (ids.1, 301, .inl (fun _ => 0)))]) H := hP
  have hD : va_D A ([(h0, .inr (7, [.ref q8, .null, .null, .int 0]))] ++ [(q8, .inl (ids.1, 301, .inl (fun _ => 0)))] ++ [(q17, .inl (ids.1, 301, .inl (fun _ => 0)))]) := hD
  refine W.widen (k := 2) (n := 602) (Nat.le_of_ble_eq_true rfl) (Nat.le_of_ble_eq_true rfl) ?_
  refine va_putF (D := D) (ci := 7) (v := .ref q17) (ty := .array .int) (C := RX7) (T := TX7) (N := 4) hx hb hts (fun w hw => List.mem_cons_of_mem _ (uws_7 w hw)) tyX7 tyX7_ok nmX7 hown hK hP hD hS 0 rfl rfl 1 (by decide) (hts (.fieldLink RX7 15 "CoverFires$Tokens" "numbers" "[I") (List.mem_cons_of_mem _ (wsm_1 (i := 224) rfl rfl))) (fun _ h9 => h9) rfl hin rfl (by decide +kernel) rfl rfl (Nat.le_of_ble_eq_true rfl) (show decode cX7_init 19 = .ok (.putfield 15, 3) by decide +kernel) (fun H locs hP hD hS => ?_)
  have hP : va_P D acl ([(h0, .inr (7, [.ref q8, .ref q17, .null, .int 0]))] ++ [(q8, .inl (ids.1, 301, .inl (fun _ => 0)))] ++ [(q17, .inl (ids.1, 301, .inl (fun _ => 0)))]) H := hP
  have hD : va_D A ([(h0, .inr (7, [.ref q8, .ref q17, .null, .int 0]))] ++ [(q8, .inl (ids.1, 301, .inl (fun _ => 0)))] ++ [(q17, .inl (ids.1, 301, .inl (fun _ => 0)))]) := hD
  refine lv_aload_n hx hb (show decode cX7_init 22 = .ok (.aload_n 0, 1) by decide +kernel) rfl (lv_at hl 0 rfl) ?_
  refine lv_sipush (v := 301) hx hb (show decode cX7_init 23 = .ok (.sipush 301, 3) by decide +kernel) (by decide) ?_
  refine va_newa (atype := .int) (ty := .int) (a0 := (301, (.inl (fun _ => 0)))) hx hb (hts (.arrayClass .int) (List.mem_cons_of_mem _ (wsm_1 (i := 93) rfl rfl))) rfl hK hP hD hS hA (N' := 301) (fun cA => rfl) (by decide) rfl (Nat.le_of_ble_eq_true rfl) (Nat.le_of_ble_eq_true rfl) (Nat.le_of_ble_eq_true rfl) (show decode cX7_init 26 = .ok (.newarray .int, 2) by decide +kernel) (fun q26 cA H hK1 hP hD hS => ?_)
  obtain rfl := ids_int hK1
  clear hK1
  have hP : va_P D acl ([(h0, .inr (7, [.ref q8, .ref q17, .null, .int 0]))] ++ [(q8, .inl (ids.1, 301, .inl (fun _ => 0)))] ++ [(q17, .inl (ids.1, 301, .inl (fun _ => 0)))] ++ [(q26, .inl (ids.1, 301, .inl (fun _ => 0)))]) H := hP
  have hD : va_D A ([(h0, .inr (7, [.ref q8, .ref q17, .null, .int 0]))] ++ [(q8, .inl (ids.1, 301, .inl (fun _ => 0)))] ++ [(q17, .inl (ids.1, 301, .inl (fun _ => 0)))] ++ [(q26, .inl (ids.1, 301, .inl (fun _ => 0)))]) := hD
  refine W.widen (k := 3) (n := 903) (Nat.le_of_ble_eq_true rfl) (Nat.le_of_ble_eq_true rfl) ?_
  refine va_putF (D := D) (ci := 7) (v := .ref q26) (ty := .array .int) (C := RX7) (T := TX7) (N := 4) hx hb hts (fun w hw => List.mem_cons_of_mem _ (uws_7 w hw)) tyX7 tyX7_ok nmX7 hown hK hP hD hS 0 rfl rfl 2 (by decide) (hts (.fieldLink RX7 18 "CoverFires$Tokens" "places" "[I") (List.mem_cons_of_mem _ (wsm_1 (i := 225) rfl rfl))) (fun _ h9 => h9) rfl hin rfl (by decide +kernel) rfl rfl (Nat.le_of_ble_eq_true rfl) (show decode cX7_init 28 = .ok (.putfield 18, 3) by decide +kernel) (fun H locs hP hD hS => ?_)
  have hP : va_P D acl ([(h0, .inr (7, [.ref q8, .ref q17, .ref q26, .int 0]))] ++ [(q8, .inl (ids.1, 301, .inl (fun _ => 0)))] ++ [(q17, .inl (ids.1, 301, .inl (fun _ => 0)))] ++ [(q26, .inl (ids.1, 301, .inl (fun _ => 0)))]) H := hP
  have hD : va_D A ([(h0, .inr (7, [.ref q8, .ref q17, .ref q26, .int 0]))] ++ [(q8, .inl (ids.1, 301, .inl (fun _ => 0)))] ++ [(q17, .inl (ids.1, 301, .inl (fun _ => 0)))] ++ [(q26, .inl (ids.1, 301, .inl (fun _ => 0)))]) := hD
  refine W.widen (k := 3) (n := 903) (Nat.le_of_ble_eq_true rfl) (Nat.le_of_ble_eq_true rfl) ?_
  obtain ⟨a, ha⟩ : ∃ a : Nat → Nat, a = fun k => [h0, q8, q17, q26].getD k 0 := ⟨_, rfl⟩
  have hP9 : va_P D acl (bw7 ids a) H := by rw [ha]; exact hP
  have hD9 : va_D A (bw7 ids a) := by rw [ha]; exact hD
  exact W.vret hx hb hr (fun t ht hW => ⟨⟨(), rfl, trivial, a, by rw [ha]; rfl, by rw [ht]; exact hP9, hD9⟩, hS.F ht⟩) hS.2.2 (show decode cX7_init 31 = .ok (.return_, 1) by decide +kernel)
def bw8 (ids : Ids) (a : Nat → Nat) : va_W := [(a 0, .inr (8, [.int 0, .ref (a 1), .ref (a 2), .ref (a 3), .ref (a 4), .int 0, .int 0, .int 163, .ref (a 5), .int 0])), (a 1, .inl (ids.1, 8, .inl (fun _ => 0))), (a 2, .inl (ids.1, 8, .inl (fun _ => 0))), (a 3, .inl (ids.1, 8, .inl (fun _ => 0))), (a 4, .inl (ids.1, 8, .inl (fun _ => 0))), (a 5, .inl (ids.1, 30, .inl (fun _ => 0)))]
theorem dfX8 : ∀ j, j < 10 → defaultValue (tyX8 j) = vp_V [.int 0, .null, .null, .null, .null, .int 0, .int 0, .int 0, .null, .int 0] j := by
  intro j hj
  match j, hj with
  | 0, _ => rfl
  | 1, _ => rfl
  | 2, _ => rfl
  | 3, _ => rfl
  | 4, _ => rfl
  | 5, _ => rfl
  | 6, _ => rfl
  | 7, _ => rfl
  | 8, _ => rfl
  | 9, _ => rfl
  | j + 10, h => omega
set_option maxHeartbeats 8000000 in
set_option maxRecDepth 100000 in
theorem ct8 (l : Launch) (D : va_G) (ids : Ids) (h0 sz : Nat) : Met l yX8_init (.code yX8_init cX8_init 1 none :: WS) { frames := 1, cells := 5, slots := 62, locals := 16 } (va_Pc [.ref h0] (fun U => U.heap.size = sz ∧ va_P D acl [(h0, .inr (8, [.int 0, .null, .null, .null, .null, .int 0, .int 0, .int 0, .null, .int 0]))] U.heap ∧ va_K D acl (atys ids) U ∧ va_D (fun _ => True) [(h0, .inr (8, [.int 0, .null, .null, .null, .null, .int 0, .int 0, .int 0, .null, .int 0]))] ∧ CO U)) (va_Qv (S := Unit) (fun _ => True) (fun _ t => ∃ a : Nat → Nat, a 0 = h0 ∧ va_P D acl (bw8 ids a) t.heap ∧ va_D (va_A [(h0, .inr (8, [.int 0, .null, .null, .null, .null, .int 0, .int 0, .int 0, .null, .int 0]))] sz) (bw8 ids a)) (va_A [(h0, .inr (8, [.int 0, .null, .null, .null, .null, .int 0, .int 0, .int 0, .null, .int 0]))] sz)) 5 62 (va_A [(h0, .inr (8, [.int 0, .null, .null, .null, .null, .int 0, .int 0, .int 0, .null, .int 0]))] sz) := by
  refine Met.ofW (cc := cX8_init) (maxL := 1) (ret := none) (by decide) rfl ?_
  intro p e s m args below meth c s₁ B hml hv
  obtain ⟨rfl, hsz, hP, hK, hD0, hO⟩ := hv
  have hx := B.exec
  have hb := B.bytes
  have hr := B.returns
  have hts := atoms_spec (ws := .code yX8_init cX8_init 1 none :: WS) B.pre
  have hown : s.vm.findClass RX8 = some m.cls := findClass_of_methodNamed B.named
  have hlocks := B.notSynchronized
  have hin : meth.name = "<init>" := (name_of_methodNamed B.named B.method).1
  subst hsz
  have hD := hD0.self (sz := s.heap.size)
  generalize hAe : va_A [(h0, .inr (8, [.int 0, .null, .null, .null, .null, .int 0, .int 0, .int 0, .null, .int 0]))] s.heap.size = A at hD ⊢
  have hA : ∀ q : Nat, s.heap.size ≤ q → A q := fun q h => by rw [← hAe]; exact Or.inr h
  have hS : va_S A s.heap s.heap [] := va_S.rf
  have hP : va_P D acl [(h0, .inr (8, [.int 0, .null, .null, .null, .null, .int 0, .int 0, .int 0, .null, .int 0]))] s.heap := hP
  have hl := lv_entry ([.ref h0]) (n := 1) (Nat.le_of_ble_eq_true rfl)
  rw [lg_entry_eq]
  generalize (lg_sl ([.ref h0]) ++ List.replicate (1 - (lg_sl ([.ref h0])).length) Slot.unset).toArray = ls at hl ⊢
  have hl : lv_has ls 1 [(0, .ref h0)] := hl
  refine lv_aload_n hx hb (show decode cX8_init 0 = .ok (.aload_n 0, 1) by decide +kernel) rfl (lv_at hl 0 rfl) ?_
  refine W.objInit hx hb hown (hts (.methodLink RX8 5 objectInit) (List.mem_cons_of_mem _ (wsm_1 (i := 43) rfl rfl))) (hts (.instanceMethod objectInit) (List.mem_cons_of_mem _ (wsm_1 (i := 30) rfl rfl))) (hts (.code objectInit ⟨#[0xb1]⟩ 1 none) (List.mem_cons_of_mem _ (wsm_1 (i := 31) rfl rfl))) rfl (by rw [hml]; exact hl.1) rfl (show decode cX8_init 1 = .ok (.invokespecial 5, 3) by decide +kernel) (Nat.le_of_ble_eq_true rfl) (Nat.le_of_ble_eq_true rfl) ?_
  refine W.eq (g2 := F0 m 4 ls []) rfl ?_
  refine lv_aload_n hx hb (show decode cX8_init 4 = .ok (.aload_n 0, 1) by decide +kernel) rfl (lv_at hl 0 rfl) ?_
  refine lv_bipush (v := 8) hx hb (show decode cX8_init 5 = .ok (.bipush 8, 2) by decide +kernel) (by decide) ?_
  refine va_newa (atype := .int) (ty := .int) (a0 := (8, (.inl (fun _ => 0)))) hx hb (hts (.arrayClass .int) (List.mem_cons_of_mem _ (wsm_1 (i := 93) rfl rfl))) rfl hK hP hD hS hA (N' := 8) (fun cA => rfl) (by decide) rfl (Nat.le_of_ble_eq_true rfl) (Nat.le_of_ble_eq_true rfl) (Nat.le_of_ble_eq_true rfl) (show decode cX8_init 7 = .ok (.newarray .int, 2) by decide +kernel) (fun q7 cA H hK1 hP hD hS => ?_)
  obtain rfl := ids_int hK1
  clear hK1
  have hP : va_P D acl ([(h0, .inr (8, [.int 0, .null, .null, .null, .null, .int 0, .int 0, .int 0, .null, .int 0]))] ++ [(q7, .inl (ids.1, 8, .inl (fun _ => 0)))]) H := hP
  have hD : va_D A ([(h0, .inr (8, [.int 0, .null, .null, .null, .null, .int 0, .int 0, .int 0, .null, .int 0]))] ++ [(q7, .inl (ids.1, 8, .inl (fun _ => 0)))]) := hD
  refine W.widen (k := 1) (n := 8) (Nat.le_of_ble_eq_true rfl) (Nat.le_of_ble_eq_true rfl) ?_
  refine va_putF (D := D) (ci := 8) (v := .ref q7) (ty := .array .int) (C := RX8) (T := TX8) (N := 10) hx hb hts (fun w hw => List.mem_cons_of_mem _ (uws_8 w hw)) tyX8 tyX8_ok nmX8 hown hK hP hD hS 0 rfl rfl 1 (by decide) (hts (.fieldLink RX8 11 "CoverFires$Town" "wood" "[I") (List.mem_cons_of_mem _ (wsm_1 (i := 48) rfl rfl))) (fun _ h9 => h9) rfl hin rfl (by decide +kernel) rfl rfl (Nat.le_of_ble_eq_true rfl) (show decode cX8_init 9 = .ok (.putfield 11, 3) by decide +kernel) (fun H locs hP hD hS => ?_)
  have hP : va_P D acl ([(h0, .inr (8, [.int 0, .ref q7, .null, .null, .null, .int 0, .int 0, .int 0, .null, .int 0]))] ++ [(q7, .inl (ids.1, 8, .inl (fun _ => 0)))]) H := hP
  have hD : va_D A ([(h0, .inr (8, [.int 0, .ref q7, .null, .null, .null, .int 0, .int 0, .int 0, .null, .int 0]))] ++ [(q7, .inl (ids.1, 8, .inl (fun _ => 0)))]) := hD
  refine lv_aload_n hx hb (show decode cX8_init 12 = .ok (.aload_n 0, 1) by decide +kernel) rfl (lv_at hl 0 rfl) ?_
  refine lv_bipush (v := 8) hx hb (show decode cX8_init 13 = .ok (.bipush 8, 2) by decide +kernel) (by decide) ?_
  refine va_newa (atype := .int) (ty := .int) (a0 := (8, (.inl (fun _ => 0)))) hx hb (hts (.arrayClass .int) (List.mem_cons_of_mem _ (wsm_1 (i := 93) rfl rfl))) rfl hK hP hD hS hA (N' := 8) (fun cA => rfl) (by decide) rfl (Nat.le_of_ble_eq_true rfl) (Nat.le_of_ble_eq_true rfl) (Nat.le_of_ble_eq_true rfl) (show decode cX8_init 15 = .ok (.newarray .int, 2) by decide +kernel) (fun q15 cA H hK1 hP hD hS => ?_)
  obtain rfl := ids_int hK1
  clear hK1
  have hP : va_P D acl ([(h0, .inr (8, [.int 0, .ref q7, .null, .null, .null, .int 0, .int 0, .int 0, .null, .int 0]))] ++ [(q7, .inl (ids.1, 8, .inl (fun _ => 0)))] ++ [(q15, .inl (ids.1, 8, .inl (fun _ => 0)))]) H := hP
  have hD : va_D A ([(h0, .inr (8, [.int 0, .ref q7, .null, .null, .null, .int 0, .int 0, .int 0, .null, .int 0]))] ++ [(q7, .inl (ids.1, 8, .inl (fun _ => 0)))] ++ [(q15, .inl (ids.1, 8, .inl (fun _ => 0)))]) := hD
  refine W.widen (k := 2) (n := 16) (Nat.le_of_ble_eq_true rfl) (Nat.le_of_ble_eq_true rfl) ?_
  refine va_putF (D := D) (ci := 8) (v := .ref q15) (ty := .array .int) (C := RX8) (T := TX8) (N := 10) hx hb hts (fun w hw => List.mem_cons_of_mem _ (uws_8 w hw)) tyX8 tyX8_ok nmX8 hown hK hP hD hS 0 rfl rfl 2 (by decide) (hts (.fieldLink RX8 15 "CoverFires$Town" "coins" "[I") (List.mem_cons_of_mem _ (wsm_1 (i := 51) rfl rfl))) (fun _ h9 => h9) rfl hin rfl (by decide +kernel) rfl rfl (Nat.le_of_ble_eq_true rfl) (show decode cX8_init 17 = .ok (.putfield 15, 3) by decide +kernel) (fun H locs hP hD hS => ?_)
  have hP : va_P D acl ([(h0, .inr (8, [.int 0, .ref q7, .ref q15, .null, .null, .int 0, .int 0, .int 0, .null, .int 0]))] ++ [(q7, .inl (ids.1, 8, .inl (fun _ => 0)))] ++ [(q15, .inl (ids.1, 8, .inl (fun _ => 0)))]) H := hP
  have hD : va_D A ([(h0, .inr (8, [.int 0, .ref q7, .ref q15, .null, .null, .int 0, .int 0, .int 0, .null, .int 0]))] ++ [(q7, .inl (ids.1, 8, .inl (fun _ => 0)))] ++ [(q15, .inl (ids.1, 8, .inl (fun _ => 0)))]) := hD
  refine lv_aload_n hx hb (show decode cX8_init 20 = .ok (.aload_n 0, 1) by decide +kernel) rfl (lv_at hl 0 rfl) ?_
  refine lv_bipush (v := 8) hx hb (show decode cX8_init 21 = .ok (.bipush 8, 2) by decide +kernel) (by decide) ?_
  refine va_newa (atype := .int) (ty := .int) (a0 := (8, (.inl (fun _ => 0)))) hx hb (hts (.arrayClass .int) (List.mem_cons_of_mem _ (wsm_1 (i := 93) rfl rfl))) rfl hK hP hD hS hA (N' := 8) (fun cA => rfl) (by decide) rfl (Nat.le_of_ble_eq_true rfl) (Nat.le_of_ble_eq_true rfl) (Nat.le_of_ble_eq_true rfl) (show decode cX8_init 23 = .ok (.newarray .int, 2) by decide +kernel) (fun q23 cA H hK1 hP hD hS => ?_)
  obtain rfl := ids_int hK1
  clear hK1
  have hP : va_P D acl ([(h0, .inr (8, [.int 0, .ref q7, .ref q15, .null, .null, .int 0, .int 0, .int 0, .null, .int 0]))] ++ [(q7, .inl (ids.1, 8, .inl (fun _ => 0)))] ++ [(q15, .inl (ids.1, 8, .inl (fun _ => 0)))] ++ [(q23, .inl (ids.1, 8, .inl (fun _ => 0)))]) H := hP
  have hD : va_D A ([(h0, .inr (8, [.int 0, .ref q7, .ref q15, .null, .null, .int 0, .int 0, .int 0, .null, .int 0]))] ++ [(q7, .inl (ids.1, 8, .inl (fun _ => 0)))] ++ [(q15, .inl (ids.1, 8, .inl (fun _ => 0)))] ++ [(q23, .inl (ids.1, 8, .inl (fun _ => 0)))]) := hD
  refine W.widen (k := 3) (n := 24) (Nat.le_of_ble_eq_true rfl) (Nat.le_of_ble_eq_true rfl) ?_
  refine va_putF (D := D) (ci := 8) (v := .ref q23) (ty := .array .int) (C := RX8) (T := TX8) (N := 10) hx hb hts (fun w hw => List.mem_cons_of_mem _ (uws_8 w hw)) tyX8 tyX8_ok nmX8 hown hK hP hD hS 0 rfl rfl 3 (by decide) (hts (.fieldLink RX8 18 "CoverFires$Town" "fire" "[I") (List.mem_cons_of_mem _ (wsm_1 (i := 54) rfl rfl))) (fun _ h9 => h9) rfl hin rfl (by decide +kernel) rfl rfl (Nat.le_of_ble_eq_true rfl) (show decode cX8_init 25 = .ok (.putfield 18, 3) by decide +kernel) (fun H locs hP hD hS => ?_)
  have hP : va_P D acl ([(h0, .inr (8, [.int 0, .ref q7, .ref q15, .ref q23, .null, .int 0, .int 0, .int 0, .null, .int 0]))] ++ [(q7, .inl (ids.1, 8, .inl (fun _ => 0)))] ++ [(q15, .inl (ids.1, 8, .inl (fun _ => 0)))] ++ [(q23, .inl (ids.1, 8, .inl (fun _ => 0)))]) H := hP
  have hD : va_D A ([(h0, .inr (8, [.int 0, .ref q7, .ref q15, .ref q23, .null, .int 0, .int 0, .int 0, .null, .int 0]))] ++ [(q7, .inl (ids.1, 8, .inl (fun _ => 0)))] ++ [(q15, .inl (ids.1, 8, .inl (fun _ => 0)))] ++ [(q23, .inl (ids.1, 8, .inl (fun _ => 0)))]) := hD
  refine lv_aload_n hx hb (show decode cX8_init 28 = .ok (.aload_n 0, 1) by decide +kernel) rfl (lv_at hl 0 rfl) ?_
  refine lv_bipush (v := 8) hx hb (show decode cX8_init 29 = .ok (.bipush 8, 2) by decide +kernel) (by decide) ?_
  refine va_newa (atype := .int) (ty := .int) (a0 := (8, (.inl (fun _ => 0)))) hx hb (hts (.arrayClass .int) (List.mem_cons_of_mem _ (wsm_1 (i := 93) rfl rfl))) rfl hK hP hD hS hA (N' := 8) (fun cA => rfl) (by decide) rfl (Nat.le_of_ble_eq_true rfl) (Nat.le_of_ble_eq_true rfl) (Nat.le_of_ble_eq_true rfl) (show decode cX8_init 31 = .ok (.newarray .int, 2) by decide +kernel) (fun q31 cA H hK1 hP hD hS => ?_)
  obtain rfl := ids_int hK1
  clear hK1
  have hP : va_P D acl ([(h0, .inr (8, [.int 0, .ref q7, .ref q15, .ref q23, .null, .int 0, .int 0, .int 0, .null, .int 0]))] ++ [(q7, .inl (ids.1, 8, .inl (fun _ => 0)))] ++ [(q15, .inl (ids.1, 8, .inl (fun _ => 0)))] ++ [(q23, .inl (ids.1, 8, .inl (fun _ => 0)))] ++ [(q31, .inl (ids.1, 8, .inl (fun _ => 0)))]) H := hP
  have hD : va_D A ([(h0, .inr (8, [.int 0, .ref q7, .ref q15, .ref q23, .null, .int 0, .int 0, .int 0, .null, .int 0]))] ++ [(q7, .inl (ids.1, 8, .inl (fun _ => 0)))] ++ [(q15, .inl (ids.1, 8, .inl (fun _ => 0)))] ++ [(q23, .inl (ids.1, 8, .inl (fun _ => 0)))] ++ [(q31, .inl (ids.1, 8, .inl (fun _ => 0)))]) := hD
  refine W.widen (k := 4) (n := 32) (Nat.le_of_ble_eq_true rfl) (Nat.le_of_ble_eq_true rfl) ?_
  refine va_putF (D := D) (ci := 8) (v := .ref q31) (ty := .array .int) (C := RX8) (T := TX8) (N := 10) hx hb hts (fun w hw => List.mem_cons_of_mem _ (uws_8 w hw)) tyX8 tyX8_ok nmX8 hown hK hP hD hS 0 rfl rfl 4 (by decide) (hts (.fieldLink RX8 21 "CoverFires$Town" "heat" "[I") (List.mem_cons_of_mem _ (wsm_1 (i := 57) rfl rfl))) (fun _ h9 => h9) rfl hin rfl (by decide +kernel) rfl rfl (Nat.le_of_ble_eq_true rfl) (show decode cX8_init 33 = .ok (.putfield 21, 3) by decide +kernel) (fun H locs hP hD hS => ?_)
  have hP : va_P D acl ([(h0, .inr (8, [.int 0, .ref q7, .ref q15, .ref q23, .ref q31, .int 0, .int 0, .int 0, .null, .int 0]))] ++ [(q7, .inl (ids.1, 8, .inl (fun _ => 0)))] ++ [(q15, .inl (ids.1, 8, .inl (fun _ => 0)))] ++ [(q23, .inl (ids.1, 8, .inl (fun _ => 0)))] ++ [(q31, .inl (ids.1, 8, .inl (fun _ => 0)))]) H := hP
  have hD : va_D A ([(h0, .inr (8, [.int 0, .ref q7, .ref q15, .ref q23, .ref q31, .int 0, .int 0, .int 0, .null, .int 0]))] ++ [(q7, .inl (ids.1, 8, .inl (fun _ => 0)))] ++ [(q15, .inl (ids.1, 8, .inl (fun _ => 0)))] ++ [(q23, .inl (ids.1, 8, .inl (fun _ => 0)))] ++ [(q31, .inl (ids.1, 8, .inl (fun _ => 0)))]) := hD
  refine lv_aload_n hx hb (show decode cX8_init 36 = .ok (.aload_n 0, 1) by decide +kernel) rfl (lv_at hl 0 rfl) ?_
  refine lv_sipush (v := 163) hx hb (show decode cX8_init 37 = .ok (.sipush 163, 3) by decide +kernel) (by decide) ?_
  refine va_put (D := D) (ci := 8) (v := .int 163) (ty := .int) (C := RX8) (T := TX8) (N := 10) hx hb hts (fun w hw => List.mem_cons_of_mem _ (uws_8 w hw)) tyX8 tyX8_ok nmX8 hown hK hP hD hS 0 rfl rfl 7 (by decide) (hts (.fieldLink RX8 24 "CoverFires$Town" "x" "I") (List.mem_cons_of_mem _ (wsm_1 (i := 66) rfl rfl))) (fun _ h9 => h9) rfl (by decide +kernel) rfl rfl (Nat.le_of_ble_eq_true rfl) (show decode cX8_init 40 = .ok (.putfield 24, 3) by decide +kernel) (fun H locs hP hD hS => ?_)
  have hP : va_P D acl ([(h0, .inr (8, [.int 0, .ref q7, .ref q15, .ref q23, .ref q31, .int 0, .int 0, .int 163, .null, .int 0]))] ++ [(q7, .inl (ids.1, 8, .inl (fun _ => 0)))] ++ [(q15, .inl (ids.1, 8, .inl (fun _ => 0)))] ++ [(q23, .inl (ids.1, 8, .inl (fun _ => 0)))] ++ [(q31, .inl (ids.1, 8, .inl (fun _ => 0)))]) H := hP
  have hD : va_D A ([(h0, .inr (8, [.int 0, .ref q7, .ref q15, .ref q23, .ref q31, .int 0, .int 0, .int 163, .null, .int 0]))] ++ [(q7, .inl (ids.1, 8, .inl (fun _ => 0)))] ++ [(q15, .inl (ids.1, 8, .inl (fun _ => 0)))] ++ [(q23, .inl (ids.1, 8, .inl (fun _ => 0)))] ++ [(q31, .inl (ids.1, 8, .inl (fun _ => 0)))]) := hD
  refine lv_aload_n hx hb (show decode cX8_init 43 = .ok (.aload_n 0, 1) by decide +kernel) rfl (lv_at hl 0 rfl) ?_
  refine lv_bipush (v := 30) hx hb (show decode cX8_init 44 = .ok (.bipush 30, 2) by decide +kernel) (by decide) ?_
  refine va_newa (atype := .int) (ty := .int) (a0 := (30, (.inl (fun _ => 0)))) hx hb (hts (.arrayClass .int) (List.mem_cons_of_mem _ (wsm_1 (i := 93) rfl rfl))) rfl hK hP hD hS hA (N' := 30) (fun cA => rfl) (by decide) rfl (Nat.le_of_ble_eq_true rfl) (Nat.le_of_ble_eq_true rfl) (Nat.le_of_ble_eq_true rfl) (show decode cX8_init 46 = .ok (.newarray .int, 2) by decide +kernel) (fun q46 cA H hK1 hP hD hS => ?_)
  obtain rfl := ids_int hK1
  clear hK1
  have hP : va_P D acl ([(h0, .inr (8, [.int 0, .ref q7, .ref q15, .ref q23, .ref q31, .int 0, .int 0, .int 163, .null, .int 0]))] ++ [(q7, .inl (ids.1, 8, .inl (fun _ => 0)))] ++ [(q15, .inl (ids.1, 8, .inl (fun _ => 0)))] ++ [(q23, .inl (ids.1, 8, .inl (fun _ => 0)))] ++ [(q31, .inl (ids.1, 8, .inl (fun _ => 0)))] ++ [(q46, .inl (ids.1, 30, .inl (fun _ => 0)))]) H := hP
  have hD : va_D A ([(h0, .inr (8, [.int 0, .ref q7, .ref q15, .ref q23, .ref q31, .int 0, .int 0, .int 163, .null, .int 0]))] ++ [(q7, .inl (ids.1, 8, .inl (fun _ => 0)))] ++ [(q15, .inl (ids.1, 8, .inl (fun _ => 0)))] ++ [(q23, .inl (ids.1, 8, .inl (fun _ => 0)))] ++ [(q31, .inl (ids.1, 8, .inl (fun _ => 0)))] ++ [(q46, .inl (ids.1, 30, .inl (fun _ => 0)))]) := hD
  refine W.widen (k := 5) (n := 62) (Nat.le_of_ble_eq_true rfl) (Nat.le_of_ble_eq_true rfl) ?_
  refine va_putF (D := D) (ci := 8) (v := .ref q46) (ty := .array .int) (C := RX8) (T := TX8) (N := 10) hx hb hts (fun w hw => List.mem_cons_of_mem _ (uws_8 w hw)) tyX8 tyX8_ok nmX8 hown hK hP hD hS 0 rfl rfl 8 (by decide) (hts (.fieldLink RX8 28 "CoverFires$Town" "notes" "[I") (List.mem_cons_of_mem _ (wsm_1 (i := 68) rfl rfl))) (fun _ h9 => h9) rfl hin rfl (by decide +kernel) rfl rfl (Nat.le_of_ble_eq_true rfl) (show decode cX8_init 48 = .ok (.putfield 28, 3) by decide +kernel) (fun H locs hP hD hS => ?_)
  have hP : va_P D acl ([(h0, .inr (8, [.int 0, .ref q7, .ref q15, .ref q23, .ref q31, .int 0, .int 0, .int 163, .ref q46, .int 0]))] ++ [(q7, .inl (ids.1, 8, .inl (fun _ => 0)))] ++ [(q15, .inl (ids.1, 8, .inl (fun _ => 0)))] ++ [(q23, .inl (ids.1, 8, .inl (fun _ => 0)))] ++ [(q31, .inl (ids.1, 8, .inl (fun _ => 0)))] ++ [(q46, .inl (ids.1, 30, .inl (fun _ => 0)))]) H := hP
  have hD : va_D A ([(h0, .inr (8, [.int 0, .ref q7, .ref q15, .ref q23, .ref q31, .int 0, .int 0, .int 163, .ref q46, .int 0]))] ++ [(q7, .inl (ids.1, 8, .inl (fun _ => 0)))] ++ [(q15, .inl (ids.1, 8, .inl (fun _ => 0)))] ++ [(q23, .inl (ids.1, 8, .inl (fun _ => 0)))] ++ [(q31, .inl (ids.1, 8, .inl (fun _ => 0)))] ++ [(q46, .inl (ids.1, 30, .inl (fun _ => 0)))]) := hD
  refine W.widen (k := 5) (n := 62) (Nat.le_of_ble_eq_true rfl) (Nat.le_of_ble_eq_true rfl) ?_
  obtain ⟨a, ha⟩ : ∃ a : Nat → Nat, a = fun k => [h0, q7, q15, q23, q31, q46].getD k 0 := ⟨_, rfl⟩
  have hP9 : va_P D acl (bw8 ids a) H := by rw [ha]; exact hP
  have hD9 : va_D A (bw8 ids a) := by rw [ha]; exact hD
  exact W.vret hx hb hr (fun t ht hW => ⟨⟨(), rfl, trivial, a, by rw [ha]; rfl, by rw [ht]; exact hP9, hD9⟩, hS.F ht⟩) hS.2.2 (show decode cX8_init 51 = .ok (.return_, 1) by decide +kernel)
def bw9 (ids : Ids) (a : Nat → Nat) : va_W := [(a 0, .inr (9, [.ref (a 1), .ref (a 2)])), (a 1, .inl (ids.1, 64, .inl (fun _ => 0))), (a 2, .inl (ids.1, 256, .inl (fun _ => 0)))]
theorem dfX9 : ∀ j, j < 2 → defaultValue (tyX9 j) = vp_V [.null, .null] j := by
  intro j hj
  match j, hj with
  | 0, _ => rfl
  | 1, _ => rfl
  | j + 2, h => omega
set_option maxHeartbeats 8000000 in
set_option maxRecDepth 100000 in
theorem ct9 (l : Launch) (D : va_G) (ids : Ids) (h0 sz : Nat) : Met l yX9_init (.code yX9_init cX9_init 1 none :: WS) { frames := 1, cells := 2, slots := 320, locals := 16 } (va_Pc [.ref h0] (fun U => U.heap.size = sz ∧ va_P D acl [(h0, .inr (9, [.null, .null]))] U.heap ∧ va_K D acl (atys ids) U ∧ va_D (fun _ => True) [(h0, .inr (9, [.null, .null]))] ∧ CO U)) (va_Qv (S := Unit) (fun _ => True) (fun _ t => ∃ a : Nat → Nat, a 0 = h0 ∧ va_P D acl (bw9 ids a) t.heap ∧ va_D (va_A [(h0, .inr (9, [.null, .null]))] sz) (bw9 ids a)) (va_A [(h0, .inr (9, [.null, .null]))] sz)) 2 320 (va_A [(h0, .inr (9, [.null, .null]))] sz) := by
  refine Met.ofW (cc := cX9_init) (maxL := 1) (ret := none) (by decide) rfl ?_
  intro p e s m args below meth c s₁ B hml hv
  obtain ⟨rfl, hsz, hP, hK, hD0, hO⟩ := hv
  have hx := B.exec
  have hb := B.bytes
  have hr := B.returns
  have hts := atoms_spec (ws := .code yX9_init cX9_init 1 none :: WS) B.pre
  have hown : s.vm.findClass RX9 = some m.cls := findClass_of_methodNamed B.named
  have hlocks := B.notSynchronized
  have hin : meth.name = "<init>" := (name_of_methodNamed B.named B.method).1
  subst hsz
  have hD := hD0.self (sz := s.heap.size)
  generalize hAe : va_A [(h0, .inr (9, [.null, .null]))] s.heap.size = A at hD ⊢
  have hA : ∀ q : Nat, s.heap.size ≤ q → A q := fun q h => by rw [← hAe]; exact Or.inr h
  have hS : va_S A s.heap s.heap [] := va_S.rf
  have hP : va_P D acl [(h0, .inr (9, [.null, .null]))] s.heap := hP
  have hl := lv_entry ([.ref h0]) (n := 1) (Nat.le_of_ble_eq_true rfl)
  rw [lg_entry_eq]
  generalize (lg_sl ([.ref h0]) ++ List.replicate (1 - (lg_sl ([.ref h0])).length) Slot.unset).toArray = ls at hl ⊢
  have hl : lv_has ls 1 [(0, .ref h0)] := hl
  refine lv_aload_n hx hb (show decode cX9_init 0 = .ok (.aload_n 0, 1) by decide +kernel) rfl (lv_at hl 0 rfl) ?_
  refine W.objInit hx hb hown (hts (.methodLink RX9 3 objectInit) (List.mem_cons_of_mem _ (wsm_2 (i := 44) rfl rfl))) (hts (.instanceMethod objectInit) (List.mem_cons_of_mem _ (wsm_1 (i := 30) rfl rfl))) (hts (.code objectInit ⟨#[0xb1]⟩ 1 none) (List.mem_cons_of_mem _ (wsm_1 (i := 31) rfl rfl))) rfl (by rw [hml]; exact hl.1) rfl (show decode cX9_init 1 = .ok (.invokespecial 3, 3) by decide +kernel) (Nat.le_of_ble_eq_true rfl) (Nat.le_of_ble_eq_true rfl) ?_
  refine W.eq (g2 := F0 m 4 ls []) rfl ?_
  refine lv_aload_n hx hb (show decode cX9_init 4 = .ok (.aload_n 0, 1) by decide +kernel) rfl (lv_at hl 0 rfl) ?_
  refine lv_bipush (v := 64) hx hb (show decode cX9_init 5 = .ok (.bipush 64, 2) by decide +kernel) (by decide) ?_
  refine va_newa (atype := .int) (ty := .int) (a0 := (64, (.inl (fun _ => 0)))) hx hb (hts (.arrayClass .int) (List.mem_cons_of_mem _ (wsm_1 (i := 93) rfl rfl))) rfl hK hP hD hS hA (N' := 64) (fun cA => rfl) (by decide) rfl (Nat.le_of_ble_eq_true rfl) (Nat.le_of_ble_eq_true rfl) (Nat.le_of_ble_eq_true rfl) (show decode cX9_init 7 = .ok (.newarray .int, 2) by decide +kernel) (fun q7 cA H hK1 hP hD hS => ?_)
  obtain rfl := ids_int hK1
  clear hK1
  have hP : va_P D acl ([(h0, .inr (9, [.null, .null]))] ++ [(q7, .inl (ids.1, 64, .inl (fun _ => 0)))]) H := hP
  have hD : va_D A ([(h0, .inr (9, [.null, .null]))] ++ [(q7, .inl (ids.1, 64, .inl (fun _ => 0)))]) := hD
  refine W.widen (k := 1) (n := 64) (Nat.le_of_ble_eq_true rfl) (Nat.le_of_ble_eq_true rfl) ?_
  refine va_putF (D := D) (ci := 9) (v := .ref q7) (ty := .array .int) (C := RX9) (T := TX9) (N := 2) hx hb hts (fun w hw => List.mem_cons_of_mem _ (uws_9 w hw)) tyX9 tyX9_ok nmX9 hown hK hP hD hS 0 rfl rfl 0 (by decide) (hts (.fieldLink RX9 9 "CoverFires$Ways" "lengths" "[I") (List.mem_cons_of_mem _ (wsm_2 (i := 45) rfl rfl))) (fun _ h9 => h9) rfl hin rfl (by decide +kernel) rfl rfl (Nat.le_of_ble_eq_true rfl) (show decode cX9_init 9 = .ok (.putfield 9, 3) by decide +kernel) (fun H locs hP hD hS => ?_)
  have hP : va_P D acl ([(h0, .inr (9, [.ref q7, .null]))] ++ [(q7, .inl (ids.1, 64, .inl (fun _ => 0)))]) H := hP
  have hD : va_D A ([(h0, .inr (9, [.ref q7, .null]))] ++ [(q7, .inl (ids.1, 64, .inl (fun _ => 0)))]) := hD
  refine lv_aload_n hx hb (show decode cX9_init 12 = .ok (.aload_n 0, 1) by decide +kernel) rfl (lv_at hl 0 rfl) ?_
  refine lv_sipush (v := 256) hx hb (show decode cX9_init 13 = .ok (.sipush 256, 3) by decide +kernel) (by decide) ?_
  refine va_newa (atype := .int) (ty := .int) (a0 := (256, (.inl (fun _ => 0)))) hx hb (hts (.arrayClass .int) (List.mem_cons_of_mem _ (wsm_1 (i := 93) rfl rfl))) rfl hK hP hD hS hA (N' := 256) (fun cA => rfl) (by decide) rfl (Nat.le_of_ble_eq_true rfl) (Nat.le_of_ble_eq_true rfl) (Nat.le_of_ble_eq_true rfl) (show decode cX9_init 16 = .ok (.newarray .int, 2) by decide +kernel) (fun q16 cA H hK1 hP hD hS => ?_)
  obtain rfl := ids_int hK1
  clear hK1
  have hP : va_P D acl ([(h0, .inr (9, [.ref q7, .null]))] ++ [(q7, .inl (ids.1, 64, .inl (fun _ => 0)))] ++ [(q16, .inl (ids.1, 256, .inl (fun _ => 0)))]) H := hP
  have hD : va_D A ([(h0, .inr (9, [.ref q7, .null]))] ++ [(q7, .inl (ids.1, 64, .inl (fun _ => 0)))] ++ [(q16, .inl (ids.1, 256, .inl (fun _ => 0)))]) := hD
  refine W.widen (k := 2) (n := 320) (Nat.le_of_ble_eq_true rfl) (Nat.le_of_ble_eq_true rfl) ?_
  refine va_putF (D := D) (ci := 9) (v := .ref q16) (ty := .array .int) (C := RX9) (T := TX9) (N := 2) hx hb hts (fun w hw => List.mem_cons_of_mem _ (uws_9 w hw)) tyX9 tyX9_ok nmX9 hown hK hP hD hS 0 rfl rfl 1 (by decide) (hts (.fieldLink RX9 15 "CoverFires$Ways" "paired" "[I") (List.mem_cons_of_mem _ (wsm_2 (i := 46) rfl rfl))) (fun _ h9 => h9) rfl hin rfl (by decide +kernel) rfl rfl (Nat.le_of_ble_eq_true rfl) (show decode cX9_init 18 = .ok (.putfield 15, 3) by decide +kernel) (fun H locs hP hD hS => ?_)
  have hP : va_P D acl ([(h0, .inr (9, [.ref q7, .ref q16]))] ++ [(q7, .inl (ids.1, 64, .inl (fun _ => 0)))] ++ [(q16, .inl (ids.1, 256, .inl (fun _ => 0)))]) H := hP
  have hD : va_D A ([(h0, .inr (9, [.ref q7, .ref q16]))] ++ [(q7, .inl (ids.1, 64, .inl (fun _ => 0)))] ++ [(q16, .inl (ids.1, 256, .inl (fun _ => 0)))]) := hD
  refine W.widen (k := 2) (n := 320) (Nat.le_of_ble_eq_true rfl) (Nat.le_of_ble_eq_true rfl) ?_
  obtain ⟨a, ha⟩ : ∃ a : Nat → Nat, a = fun k => [h0, q7, q16].getD k 0 := ⟨_, rfl⟩
  have hP9 : va_P D acl (bw9 ids a) H := by rw [ha]; exact hP
  have hD9 : va_D A (bw9 ids a) := by rw [ha]; exact hD
  exact W.vret hx hb hr (fun t ht hW => ⟨⟨(), rfl, trivial, a, by rw [ha]; rfl, by rw [ht]; exact hP9, hD9⟩, hS.F ht⟩) hS.2.2 (show decode cX9_init 21 = .ok (.return_, 1) by decide +kernel)
