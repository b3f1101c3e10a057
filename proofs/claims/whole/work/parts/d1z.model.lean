/-! constructor: the reference, the walk (printed by wip/whole/gen_walk.py) -/
theorem XK.ad {ad ad' : Nat → Nat} {A : Nat → Prop} {U : State} {H : Heap} (h : XK ad A U H) (e : ∀ k, 1000000 ≤ k → ad' k = ad k) : XK ad' A U H := by
  have e1 : (fun j => ad' (SB + j)) = (fun j => ad (SB + j)) := by
    funext j
    exact e _ (Nat.le_add_right _ _)
  have e2 : (fun j => ad' (SV + j)) = (fun j => ad (SV + j)) := by
    funext j
    exact e _ (Nat.le_trans (show 1000000 ≤ SV by decide) (Nat.le_add_right _ _))
  obtain ⟨h1, h2, h3, h4, h5⟩ := h
  refine ⟨h1, by rw [e1, e2]; exact h2, fun j hj => ?_, h4, ?_⟩
  · rw [e (SB + j) (Nat.le_add_right _ _)]
    exact h3 j hj
  · rw [e SF (show 1000000 ≤ SF by decide)]
    exact h5
def St12 (D : va_G) (A : Nat → Prop) (s : State) (h0 : Nat) (fs : List Value) (T : va_W) (H : Heap) (locs : List Loc) : Prop := va_P D acl ((h0, .inr (12, fs)) :: T) H ∧ va_D A ((h0, .inr (12, fs)) :: T) ∧ va_S A s.heap H locs ∧ fs.length = 32
theorem st12_put {p : Program} {l : Launch} {e : Env} {R : Room} {s : State} {m : MethodId} {args : Array Value} {below : List Frame} {meth : Method} {c : Code} {H : Heap} {locs : List Loc} {cells slots : Nat} {Q : State → Prop} {cc : ByteArray} {ls : Array Slot} {w0 : Cond} {pc idx h0 : Nat} {D : va_G} {ids : Ids} {A : Nat → Prop} {T : va_W} {fs : List Value} {nm ds : String} {v : Value} {ty : FieldType} (hx : p.tables.exec = Jvm.exec) (hb : c.code = cc) (hts : ∀ w ∈ w0 :: WS, w.before args s = true) (hown : s.vm.findClass RX12 = some m.cls) (hK : va_K D acl (atys ids) s) (h : St12 D A s h0 fs T H locs) (k : Nat) (hk : k < 32) (ht : TX12 k = (RX12, nm, ds, false)) (hl : Cond.fieldLink RX12 idx RX12 nm ds ∈ WS) (hd : parseFieldDescriptor ds = some ty) (hn : narrow ty v = v) (hfit : fits ty v = true) (hdg : decode cc pc = .ok (.putfield idx, 3)) (kk : ∀ (H1 : Heap) (locs1 : List Loc), St12 D A s h0 (fs.set k v) T H1 locs1 → W p l e R s m args below meth c H1 locs1 cells slots Q (F0 m (pc + 3) ls [])) : W p l e R s m args below meth c H locs cells slots Q (F0 m pc ls [v, .ref h0]) :=
  put12 (v := v) (ty := ty) (k := k) hx hb hts hown hK h.1 h.2.1 h.2.2.1 rfl hk ht hl hd hn hfit (by rw [h.2.2.2]; exact hk) hdg (fun H1 locs1 hP hD hS => kk H1 locs1 ⟨hP, hD, hS, by rw [List.length_set]; exact h.2.2.2⟩)
theorem st12_na {p : Program} {l : Launch} {e : Env} {R : Room} {s : State} {m : MethodId} {args : Array Value} {below : List Frame} {meth : Method} {c : Code} {H : Heap} {locs : List Loc} {cells slots c1 s1 : Nat} {Q : State → Prop} {cc : ByteArray} {ls : Array Slot} {w0 : Cond} {pc idx h0 : Nat} {D : va_G} {ids : Ids} {A : Nat → Prop} {T : va_W} {fs : List Value} {nm ds : String} {atype : ArrayType} {ty : FieldType} {a0 : vp_A} {cid : ClassId} {n : Int32} {N : Nat} (hx : p.tables.exec = Jvm.exec) (hb : c.code = cc) (hts : ∀ w ∈ w0 :: WS, w.before args s = true) (hown : s.vm.findClass RX12 = some m.cls) (hin : meth.name = "<init>") (hA : ∀ q : Nat, s.heap.size ≤ q → A q) (hK : va_K D acl (atys ids) s) (h : St12 D A s h0 fs T H locs) (k : Nat) (hk : k < 32) (harr : (Cond.arrayClass (newarray.typeOf atype)).before args s = true) (hty : newarray.typeOf atype = ty) (hcid : ∀ cA : ClassId, va_K D acl (atys ids ++ [(cA, ty)]) s → cid = cA) (ha : ∀ cA : ClassId, vp_cell cA a0 = arrV cA N (fun _ => defaultValue ty)) (hn : ¬ n < 0) (hN : n.toNatClampNeg = N) (hbytes : N * componentBytes ty ≤ 536870912) (hc1 : cells + 1 = c1) (hs1 : slots + N = s1) (hcells : c1 ≤ R.cells) (hslots : s1 ≤ R.slots) (hd1 : decode cc pc = .ok (.newarray atype, 2)) (ht : TX12 k = (RX12, nm, ds, true)) (hl : Cond.fieldLink RX12 idx RX12 nm ds ∈ WS) (hd : parseFieldDescriptor ds = some (.array ty)) (hd2 : decode cc (pc + 2) = .ok (.putfield idx, 3)) (kk : ∀ (q : Nat) (H1 : Heap) (locs1 : List Loc), St12 D A s h0 (fs.set k (.ref q)) (T ++ [(q, .inl (cid, a0))]) H1 locs1 → W p l e R s m args below meth c H1 locs1 c1 s1 Q (F0 m (pc + 5) ls [])) : W p l e R s m args below meth c H locs cells slots Q (F0 m pc ls [.int n, .ref h0]) := by
  subst hc1
  subst hs1
  refine va_newa (atype := atype) (ty := ty) (a0 := a0) hx hb harr hty hK h.1 h.2.1 h.2.2.1 hA (N' := N) ha hn hN hbytes hcells hslots hd1 (fun q cA H1 hK1 hP hD hS => ?_)
  obtain rfl := hcid cA hK1
  exact put12F (v := .ref q) (ty := .array ty) (k := k) hx hb hts hown hK hP hD hS rfl hk ht hl hin hd rfl rfl (by rw [h.2.2.2]; exact hk) hd2 (fun H2 locs2 hP2 hD2 hS2 => kk q H2 locs2 ⟨hP2, hD2, hS2, by rw [List.length_set]; exact h.2.2.2⟩)
theorem dfX12 : ∀ j, j < 32 → defaultValue (tyX12 j) = vp_V [.null, .null, .null, .null, .int 0, .int 0, .int 0, .int 0, .int 0, .int 0, .int 0, .long 0, .int 0, .int 0, .int 0, .null, .int 0, .int 0, .int 0, .int 0, .null, .null, .null, .int 0, .int 0, .int 0, .null, .null, .null, .null, .null, .null] j := by
  intro j hj
  match j, hj with
  | 0, _ => rfl
  | 1, _ => rfl
  | 2, _ => rfl
  | 3, _ => rfl
  | 4, _ => rfl
  | 5, _ => rfl
  | 6, _ => rfl
  | 7, _ => rfl
  | 8, _ => rfl
  | 9, _ => rfl
  | 10, _ => rfl
  | 11, _ => rfl
  | 12, _ => rfl
  | 13, _ => rfl
  | 14, _ => rfl
  | 15, _ => rfl
  | 16, _ => rfl
  | 17, _ => rfl
  | 18, _ => rfl
  | 19, _ => rfl
  | 20, _ => rfl
  | 21, _ => rfl
  | 22, _ => rfl
  | 23, _ => rfl
  | 24, _ => rfl
  | 25, _ => rfl
  | 26, _ => rfl
  | 27, _ => rfl
  | 28, _ => rfl
  | 29, _ => rfl
  | 30, _ => rfl
  | 31, _ => rfl
  | j + 32, h => omega
set_option maxHeartbeats 8000000 in
set_option maxRecDepth 100000 in
theorem ct12 (l : Launch) (D : va_G) (ids : Ids) (ad0 : Nat → Nat) (h0 sz : Nat) : Met l yX12_init (.code yX12_init cX12_init 1 none :: WS) { frames := 3, cells := 14, slots := 8483, locals := 100 } (va_Pc [.ref h0] (fun U => U.heap.size = sz ∧ va_P D acl [(h0, .inr (12, [.null, .null, .null, .null, .int 0, .int 0, .int 0, .int 0, .int 0, .int 0, .int 0, .long 0, .int 0, .int 0, .int 0, .null, .int 0, .int 0, .int 0, .int 0, .null, .null, .null, .int 0, .int 0, .int 0, .null, .null, .null, .null, .null, .null]))] U.heap ∧ va_K D acl (atys ids) U ∧ va_D (fun _ => True) [(h0, .inr (12, [.null, .null, .null, .null, .int 0, .int 0, .int 0, .int 0, .int 0, .int 0, .int 0, .long 0, .int 0, .int 0, .int 0, .null, .int 0, .int 0, .int 0, .int 0, .null, .null, .null, .int 0, .int 0, .int 0, .null, .null, .null, .null, .null, .null]))] ∧ CO U ∧ XK ad0 (va_A [(h0, .inr (12, [.null, .null, .null, .null, .int 0, .int 0, .int 0, .int 0, .int 0, .int 0, .int 0, .long 0, .int 0, .int 0, .int 0, .null, .int 0, .int 0, .int 0, .int 0, .null, .null, .null, .int 0, .int 0, .int 0, .null, .null, .null, .null, .null, .null]))] sz) U U.heap)) (va_Qv (S := Unit) (fun _ => True) (fun _ t => ∃ a : Nat → Nat, a 0 = h0 ∧ (∀ k, 1000000 ≤ k → a k = ad0 k) ∧ va_P D acl (aW ids a κM sM9) t.heap ∧ va_D (va_A [(h0, .inr (12, [.null, .null, .null, .null, .int 0, .int 0, .int 0, .int 0, .int 0, .int 0, .int 0, .long 0, .int 0, .int 0, .int 0, .null, .int 0, .int 0, .int 0, .int 0, .null, .null, .null, .int 0, .int 0, .int 0, .null, .null, .null, .null, .null, .null]))] sz) (aW ids a κM sM9)) (va_A [(h0, .inr (12, [.null, .null, .null, .null, .int 0, .int 0, .int 0, .int 0, .int 0, .int 0, .int 0, .long 0, .int 0, .int 0, .int 0, .null, .int 0, .int 0, .int 0, .int 0, .null, .null, .null, .int 0, .int 0, .int 0, .null, .null, .null, .null, .null, .null]))] sz)) 14 8483 (va_A [(h0, .inr (12, [.null, .null, .null, .null, .int 0, .int 0, .int 0, .int 0, .int 0, .int 0, .int 0, .long 0, .int 0, .int 0, .int 0, .null, .int 0, .int 0, .int 0, .int 0, .null, .null, .null, .int 0, .int 0, .int 0, .null, .null, .null, .null, .null, .null]))] sz) := by
  refine Met.ofW (cc := cX12_init) (maxL := 1) (ret := none) (by decide) rfl ?_
  intro p e s m args below meth c s₁ B hml hv
  obtain ⟨rfl, hsz, hP, hK, hD0, hO, hX0⟩ := hv
  have hx := B.exec
  have hb := B.bytes
  have hr := B.returns
  have hts := atoms_spec (ws := .code yX12_init cX12_init 1 none :: WS) B.pre
  have hown : s.vm.findClass RX12 = some m.cls := findClass_of_methodNamed B.named
  have hlocks := B.notSynchronized
  have hin : meth.name = "<init>" := (name_of_methodNamed B.named B.method).1
  subst hsz
  have hD := hD0.self (sz := s.heap.size)
  generalize hAe : va_A [(h0, .inr (12, [.null, .null, .null, .null, .int 0, .int 0, .int 0, .int 0, .int 0, .int 0, .int 0, .long 0, .int 0, .int 0, .int 0, .null, .int 0, .int 0, .int 0, .int 0, .null, .null, .null, .int 0, .int 0, .int 0, .null, .null, .null, .null, .null, .null]))] s.heap.size = A at hD hX0 ⊢
  have hA : ∀ q : Nat, s.heap.size ≤ q → A q := fun q h => by rw [← hAe]; exact Or.inr h
  have hS : va_S A s.heap s.heap [] := va_S.rf
  have hP : va_P D acl [(h0, .inr (12, [.null, .null, .null, .null, .int 0, .int 0, .int 0, .int 0, .int 0, .int 0, .int 0, .long 0, .int 0, .int 0, .int 0, .null, .int 0, .int 0, .int 0, .int 0, .null, .null, .null, .int 0, .int 0, .int 0, .null, .null, .null, .null, .null, .null]))] s.heap := hP
  have h : St12 D A s h0 _ [] s.heap [] := ⟨hP, hD, hS, rfl⟩
  clear hP hD hS
  have hl := lv_entry ([.ref h0]) (n := 1) (Nat.le_of_ble_eq_true rfl)
  rw [lg_entry_eq]
  generalize (lg_sl ([.ref h0]) ++ List.replicate (1 - (lg_sl ([.ref h0])).length) Slot.unset).toArray = ls at hl ⊢
  have hl : lv_has ls 1 [(0, .ref h0)] := hl
  refine lv_aload_n hx hb (show decode cX12_init 0 = .ok (.aload_n 0, 1) by decide +kernel) rfl (lv_at hl 0 rfl) ?_
  refine W.objInit hx hb hown (hts (.methodLink RX12 1 objectInit) (List.mem_cons_of_mem _ (wsm_6 (i := 29) rfl rfl))) (hts (.instanceMethod objectInit) (List.mem_cons_of_mem _ (wsm_1 (i := 30) rfl rfl))) (hts (.code objectInit ⟨#[0xb1]⟩ 1 none) (List.mem_cons_of_mem _ (wsm_1 (i := 31) rfl rfl))) rfl (by rw [hml]; exact hl.1) rfl (show decode cX12_init 1 = .ok (.invokespecial 1, 3) by decide +kernel) (Nat.le_of_ble_eq_true rfl) (Nat.le_of_ble_eq_true rfl) ?_
  refine W.eq (g2 := F0 m 4 ls []) rfl ?_
  refine lv_aload_n hx hb (show decode cX12_init 4 = .ok (.aload_n 0, 1) by decide +kernel) rfl (lv_at hl 0 rfl) ?_
  refine lv_sipush (v := 1986) hx hb (show decode cX12_init 5 = .ok (.sipush 1986, 3) by decide +kernel) (by decide) ?_
  refine st12_na (atype := .int) (ty := .int) (a0 := (1986, (.inl (fun _ => 0)))) (N := 1986) (c1 := 1) (s1 := 1986) hx hb hts hown hin hA hK h 0 (by decide) (hts (.arrayClass .int) (List.mem_cons_of_mem _ (wsm_1 (i := 93) rfl rfl))) rfl (fun _ h9 => ids_int h9) (fun cA => rfl) (by decide) rfl (Nat.le_of_ble_eq_true rfl) rfl rfl (Nat.le_of_ble_eq_true rfl) (Nat.le_of_ble_eq_true rfl) (show decode cX12_init 8 = .ok (.newarray .int, 2) by decide +kernel) (show TX12 0 = (RX12, "a", "[I", true) by decide +kernel) (wsm_6 (i := 33) rfl rfl) (by decide +kernel) (show decode cX12_init 10 = .ok (.putfield 7, 3) by decide +kernel) (fun q8 H locs h => ?_)
  refine lv_aload_n hx hb (show decode cX12_init 13 = .ok (.aload_n 0, 1) by decide +kernel) rfl (lv_at hl 0 rfl) ?_
  refine lv_sipush (v := 1986) hx hb (show decode cX12_init 14 = .ok (.sipush 1986, 3) by decide +kernel) (by decide) ?_
  refine st12_na (atype := .int) (ty := .int) (a0 := (1986, (.inl (fun _ => 0)))) (N := 1986) (c1 := 2) (s1 := 3972) hx hb hts hown hin hA hK h 1 (by decide) (hts (.arrayClass .int) (List.mem_cons_of_mem _ (wsm_1 (i := 93) rfl rfl))) rfl (fun _ h9 => ids_int h9) (fun cA => rfl) (by decide) rfl (Nat.le_of_ble_eq_true rfl) rfl rfl (Nat.le_of_ble_eq_true rfl) (Nat.le_of_ble_eq_true rfl) (show decode cX12_init 17 = .ok (.newarray .int, 2) by decide +kernel) (show TX12 1 = (RX12, "image", "[I", true) by decide +kernel) (wsm_6 (i := 34) rfl rfl) (by decide +kernel) (show decode cX12_init 19 = .ok (.putfield 13, 3) by decide +kernel) (fun q17 H locs h => ?_)
  refine lv_aload_n hx hb (show decode cX12_init 22 = .ok (.aload_n 0, 1) by decide +kernel) rfl (lv_at hl 0 rfl) ?_
  refine lv_sipush (v := 2820) hx hb (show decode cX12_init 23 = .ok (.sipush 2820, 3) by decide +kernel) (by decide) ?_
  refine st12_na (atype := .int) (ty := .int) (a0 := (2820, (.inl (fun _ => 0)))) (N := 2820) (c1 := 3) (s1 := 6792) hx hb hts hown hin hA hK h 2 (by decide) (hts (.arrayClass .int) (List.mem_cons_of_mem _ (wsm_1 (i := 93) rfl rfl))) rfl (fun _ h9 => ids_int h9) (fun cA => rfl) (by decide) rfl (Nat.le_of_ble_eq_true rfl) rfl rfl (Nat.le_of_ble_eq_true rfl) (Nat.le_of_ble_eq_true rfl) (show decode cX12_init 26 = .ok (.newarray .int, 2) by decide +kernel) (show TX12 2 = (RX12, "texts", "[I", true) by decide +kernel) (wsm_6 (i := 35) rfl rfl) (by decide +kernel) (show decode cX12_init 28 = .ok (.putfield 16, 3) by decide +kernel) (fun q26 H locs h => ?_)
  refine lv_aload_n hx hb (show decode cX12_init 31 = .ok (.aload_n 0, 1) by decide +kernel) rfl (lv_at hl 0 rfl) ?_
  refine lv_sipush (v := 300) hx hb (show decode cX12_init 32 = .ok (.sipush 300, 3) by decide +kernel) (by decide) ?_
  refine st12_na (atype := .int) (ty := .int) (a0 := (300, (.inl (fun _ => 0)))) (N := 300) (c1 := 4) (s1 := 7092) hx hb hts hown hin hA hK h 3 (by decide) (hts (.arrayClass .int) (List.mem_cons_of_mem _ (wsm_1 (i := 93) rfl rfl))) rfl (fun _ h9 => ids_int h9) (fun cA => rfl) (by decide) rfl (Nat.le_of_ble_eq_true rfl) rfl rfl (Nat.le_of_ble_eq_true rfl) (Nat.le_of_ble_eq_true rfl) (show decode cX12_init 35 = .ok (.newarray .int, 2) by decide +kernel) (show TX12 3 = (RX12, "tape", "[I", true) by decide +kernel) (wsm_6 (i := 36) rfl rfl) (by decide +kernel) (show decode cX12_init 37 = .ok (.putfield 19, 3) by decide +kernel) (fun q35 H locs h => ?_)
  refine lv_aload_n hx hb (show decode cX12_init 40 = .ok (.aload_n 0, 1) by decide +kernel) rfl (lv_at hl 0 rfl) ?_
  refine lv_iconst (v := (-1)) hx hb (show decode cX12_init 41 = .ok (.iconst (-1), 1) by decide +kernel) (by decide) ?_
  refine st12_put (v := .int (-1)) (ty := .int) hx hb hts hown hK h 5 (by decide) (show TX12 5 = (RX12, "fault", "I", false) by decide +kernel) (wsm_6 (i := 38) rfl rfl) (by decide +kernel) rfl rfl (show decode cX12_init 42 = .ok (.putfield 22, 3) by decide +kernel) (fun H locs h => ?_)
  refine lv_aload_n hx hb (show decode cX12_init 45 = .ok (.aload_n 0, 1) by decide +kernel) rfl (lv_at hl 0 rfl) ?_
  refine lv_iconst (v := (-1)) hx hb (show decode cX12_init 46 = .ok (.iconst (-1), 1) by decide +kernel) (by decide) ?_
  refine st12_put (v := .int (-1)) (ty := .int) hx hb hts hown hK h 6 (by decide) (show TX12 6 = (RX12, "faultPlace", "I", false) by decide +kernel) (wsm_6 (i := 39) rfl rfl) (by decide +kernel) rfl rfl (show decode cX12_init 47 = .ok (.putfield 26, 3) by decide +kernel) (fun H locs h => ?_)
  refine lv_aload_n hx hb (show decode cX12_init 50 = .ok (.aload_n 0, 1) by decide +kernel) rfl (lv_at hl 0 rfl) ?_
  refine lv_sipush (v := 160) hx hb (show decode cX12_init 51 = .ok (.sipush 160, 3) by decide +kernel) (by decide) ?_
  refine st12_na (atype := .int) (ty := .int) (a0 := (160, (.inl (fun _ => 0)))) (N := 160) (c1 := 5) (s1 := 7252) hx hb hts hown hin hA hK h 15 (by decide) (hts (.arrayClass .int) (List.mem_cons_of_mem _ (wsm_1 (i := 93) rfl rfl))) rfl (fun _ h9 => ids_int h9) (fun cA => rfl) (by decide) rfl (Nat.le_of_ble_eq_true rfl) rfl rfl (Nat.le_of_ble_eq_true rfl) (Nat.le_of_ble_eq_true rfl) (show decode cX12_init 54 = .ok (.newarray .int, 2) by decide +kernel) (show TX12 15 = (RX12, "pile", "[I", true) by decide +kernel) (wsm_6 (i := 48) rfl rfl) (by decide +kernel) (show decode cX12_init 56 = .ok (.putfield 29, 3) by decide +kernel) (fun q54 H locs h => ?_)
  refine lv_aload_n hx hb (show decode cX12_init 59 = .ok (.aload_n 0, 1) by decide +kernel) rfl (lv_at hl 0 rfl) ?_
  refine lv_bipush (v := 9) hx hb (show decode cX12_init 60 = .ok (.bipush 9, 2) by decide +kernel) (by decide) ?_
  refine st12_na (atype := .int) (ty := .int) (a0 := (9, (.inl (fun _ => 0)))) (N := 9) (c1 := 6) (s1 := 7261) hx hb hts hown hin hA hK h 20 (by decide) (hts (.arrayClass .int) (List.mem_cons_of_mem _ (wsm_1 (i := 93) rfl rfl))) rfl (fun _ h9 => ids_int h9) (fun cA => rfl) (by decide) rfl (Nat.le_of_ble_eq_true rfl) rfl rfl (Nat.le_of_ble_eq_true rfl) (Nat.le_of_ble_eq_true rfl) (show decode cX12_init 62 = .ok (.newarray .int, 2) by decide +kernel) (show TX12 20 = (RX12, "named", "[I", true) by decide +kernel) (wsm_6 (i := 53) rfl rfl) (by decide +kernel) (show decode cX12_init 64 = .ok (.putfield 32, 3) by decide +kernel) (fun q62 H locs h => ?_)
  refine lv_aload_n hx hb (show decode cX12_init 67 = .ok (.aload_n 0, 1) by decide +kernel) rfl (lv_at hl 0 rfl) ?_
  refine lv_sipush (v := 330) hx hb (show decode cX12_init 68 = .ok (.sipush 330, 3) by decide +kernel) (by decide) ?_
  refine st12_na (atype := .long) (ty := .long) (a0 := (330, (.inr (.inl (fun _ => 0))))) (N := 330) (c1 := 7) (s1 := 7591) hx hb hts hown hin hA hK h 21 (by decide) (hts (.arrayClass .long) (List.mem_cons_of_mem _ (wsm_2 (i := 101) rfl rfl))) rfl (fun _ h9 => ids_long h9) (fun cA => rfl) (by decide) rfl (Nat.le_of_ble_eq_true rfl) rfl rfl (Nat.le_of_ble_eq_true rfl) (Nat.le_of_ble_eq_true rfl) (show decode cX12_init 71 = .ok (.newarray .long, 2) by decide +kernel) (show TX12 21 = (RX12, "values", "[J", true) by decide +kernel) (wsm_6 (i := 54) rfl rfl) (by decide +kernel) (show decode cX12_init 73 = .ok (.putfield 35, 3) by decide +kernel) (fun q71 H locs h => ?_)
  refine lv_aload_n hx hb (show decode cX12_init 76 = .ok (.aload_n 0, 1) by decide +kernel) rfl (lv_at hl 0 rfl) ?_
  refine lv_sipush (v := 330) hx hb (show decode cX12_init 77 = .ok (.sipush 330, 3) by decide +kernel) (by decide) ?_
  refine st12_na (atype := .boolean) (ty := .boolean) (a0 := (330, (.inl (fun _ => 0)))) (N := 330) (c1 := 8) (s1 := 7921) hx hb hts hown hin hA hK h 22 (by decide) (hts (.arrayClass .boolean) (List.mem_cons_of_mem _ (wsm_1 (i := 195) rfl rfl))) rfl (fun _ h9 => ids_boolean h9) (fun cA => rfl) (by decide) rfl (Nat.le_of_ble_eq_true rfl) rfl rfl (Nat.le_of_ble_eq_true rfl) (Nat.le_of_ble_eq_true rfl) (show decode cX12_init 80 = .ok (.newarray .boolean, 2) by decide +kernel) (show TX12 22 = (RX12, "truth", "[Z", true) by decide +kernel) (wsm_6 (i := 55) rfl rfl) (by decide +kernel) (show decode cX12_init 82 = .ok (.putfield 39, 3) by decide +kernel) (fun q80 H locs h => ?_)
  refine lv_aload_n hx hb (show decode cX12_init 85 = .ok (.aload_n 0, 1) by decide +kernel) rfl (lv_at hl 0 rfl) ?_
  refine lv_iconst (v := 1) hx hb (show decode cX12_init 86 = .ok (.iconst 1, 1) by decide +kernel) (by decide) ?_
  refine st12_put (v := .int 1) (ty := .boolean) hx hb hts hown hK h 24 (by decide) (show TX12 24 = (RX12, "isWritten", "Z", false) by decide +kernel) (wsm_6 (i := 57) rfl rfl) (by decide +kernel) rfl rfl (show decode cX12_init 87 = .ok (.putfield 43, 3) by decide +kernel) (fun H locs h => ?_)
  refine lv_aload_n hx hb (show decode cX12_init 90 = .ok (.aload_n 0, 1) by decide +kernel) rfl (lv_at hl 0 rfl) ?_
  refine lv_bipush (v := 50) hx hb (show decode cX12_init 91 = .ok (.bipush 50, 2) by decide +kernel) (by decide) ?_
  refine st12_na (atype := .int) (ty := .int) (a0 := (50, (.inl (fun _ => 0)))) (N := 50) (c1 := 9) (s1 := 7971) hx hb hts hown hin hA hK h 26 (by decide) (hts (.arrayClass .int) (List.mem_cons_of_mem _ (wsm_1 (i := 93) rfl rfl))) rfl (fun _ h9 => ids_int h9) (fun cA => rfl) (by decide) rfl (Nat.le_of_ble_eq_true rfl) rfl rfl (Nat.le_of_ble_eq_true rfl) (Nat.le_of_ble_eq_true rfl) (show decode cX12_init 93 = .ok (.newarray .int, 2) by decide +kernel) (show TX12 26 = (RX12, "aside", "[I", true) by decide +kernel) (wsm_6 (i := 59) rfl rfl) (by decide +kernel) (show decode cX12_init 95 = .ok (.putfield 47, 3) by decide +kernel) (fun q93 H locs h => ?_)
  refine lv_aload_n hx hb (show decode cX12_init 98 = .ok (.aload_n 0, 1) by decide +kernel) rfl (lv_at hl 0 rfl) ?_
  refine lv_bipush (v := 64) hx hb (show decode cX12_init 99 = .ok (.bipush 64, 2) by decide +kernel) (by decide) ?_
  refine st12_na (atype := .int) (ty := .int) (a0 := (64, (.inl (fun _ => 0)))) (N := 64) (c1 := 10) (s1 := 8035) hx hb hts hown hin hA hK h 27 (by decide) (hts (.arrayClass .int) (List.mem_cons_of_mem _ (wsm_1 (i := 93) rfl rfl))) rfl (fun _ h9 => ids_int h9) (fun cA => rfl) (by decide) rfl (Nat.le_of_ble_eq_true rfl) rfl rfl (Nat.le_of_ble_eq_true rfl) (Nat.le_of_ble_eq_true rfl) (show decode cX12_init 101 = .ok (.newarray .int, 2) by decide +kernel) (show TX12 27 = (RX12, "fars", "[I", true) by decide +kernel) (wsm_6 (i := 60) rfl rfl) (by decide +kernel) (show decode cX12_init 103 = .ok (.putfield 50, 3) by decide +kernel) (fun q101 H locs h => ?_)
  refine lv_aload_n hx hb (show decode cX12_init 106 = .ok (.aload_n 0, 1) by decide +kernel) rfl (lv_at hl 0 rfl) ?_
  refine lv_sipush (v := 256) hx hb (show decode cX12_init 107 = .ok (.sipush 256, 3) by decide +kernel) (by decide) ?_
  refine st12_na (atype := .int) (ty := .int) (a0 := (256, (.inl (fun _ => 0)))) (N := 256) (c1 := 11) (s1 := 8291) hx hb hts hown hin hA hK h 28 (by decide) (hts (.arrayClass .int) (List.mem_cons_of_mem _ (wsm_1 (i := 93) rfl rfl))) rfl (fun _ h9 => ids_int h9) (fun cA => rfl) (by decide) rfl (Nat.le_of_ble_eq_true rfl) rfl rfl (Nat.le_of_ble_eq_true rfl) (Nat.le_of_ble_eq_true rfl) (show decode cX12_init 110 = .ok (.newarray .int, 2) by decide +kernel) (show TX12 28 = (RX12, "paired", "[I", true) by decide +kernel) (wsm_6 (i := 61) rfl rfl) (by decide +kernel) (show decode cX12_init 112 = .ok (.putfield 53, 3) by decide +kernel) (fun q110 H locs h => ?_)
  refine lv_aload_n hx hb (show decode cX12_init 115 = .ok (.aload_n 0, 1) by decide +kernel) rfl (lv_at hl 0 rfl) ?_
  refine lv_bipush (v := 8) hx hb (show decode cX12_init 116 = .ok (.bipush 8, 2) by decide +kernel) (by decide) ?_
  refine st12_na (atype := .int) (ty := .int) (a0 := (8, (.inl (fun _ => 0)))) (N := 8) (c1 := 12) (s1 := 8299) hx hb hts hown hin hA hK h 29 (by decide) (hts (.arrayClass .int) (List.mem_cons_of_mem _ (wsm_1 (i := 93) rfl rfl))) rfl (fun _ h9 => ids_int h9) (fun cA => rfl) (by decide) rfl (Nat.le_of_ble_eq_true rfl) rfl rfl (Nat.le_of_ble_eq_true rfl) (Nat.le_of_ble_eq_true rfl) (show decode cX12_init 118 = .ok (.newarray .int, 2) by decide +kernel) (show TX12 29 = (RX12, "room", "[I", true) by decide +kernel) (wsm_6 (i := 62) rfl rfl) (by decide +kernel) (show decode cX12_init 120 = .ok (.putfield 56, 3) by decide +kernel) (fun q118 H locs h => ?_)
  refine lv_aload_n hx hb (show decode cX12_init 123 = .ok (.aload_n 0, 1) by decide +kernel) rfl (lv_at hl 0 rfl) ?_
  refine lv_bipush (v := 64) hx hb (show decode cX12_init 124 = .ok (.bipush 64, 2) by decide +kernel) (by decide) ?_
  refine st12_na (atype := .int) (ty := .int) (a0 := (64, (.inl (fun _ => 0)))) (N := 64) (c1 := 13) (s1 := 8363) hx hb hts hown hin hA hK h 30 (by decide) (hts (.arrayClass .int) (List.mem_cons_of_mem _ (wsm_1 (i := 93) rfl rfl))) rfl (fun _ h9 => ids_int h9) (fun cA => rfl) (by decide) rfl (Nat.le_of_ble_eq_true rfl) rfl rfl (Nat.le_of_ble_eq_true rfl) (Nat.le_of_ble_eq_true rfl) (show decode cX12_init 126 = .ok (.newarray .int, 2) by decide +kernel) (show TX12 30 = (RX12, "hops", "[I", true) by decide +kernel) (wsm_6 (i := 63) rfl rfl) (by decide +kernel) (show decode cX12_init 128 = .ok (.putfield 59, 3) by decide +kernel) (fun q126 H locs h => ?_)
  refine lv_aload_n hx hb (show decode cX12_init 131 = .ok (.aload_n 0, 1) by decide +kernel) rfl (lv_at hl 0 rfl) ?_
  refine lv_bipush (v := 120) hx hb (show decode cX12_init 132 = .ok (.bipush 120, 2) by decide +kernel) (by decide) ?_
  refine st12_na (atype := .boolean) (ty := .boolean) (a0 := (120, (.inl (fun _ => 0)))) (N := 120) (c1 := 14) (s1 := 8483) hx hb hts hown hin hA hK h 31 (by decide) (hts (.arrayClass .boolean) (List.mem_cons_of_mem _ (wsm_1 (i := 195) rfl rfl))) rfl (fun _ h9 => ids_boolean h9) (fun cA => rfl) (by decide) rfl (Nat.le_of_ble_eq_true rfl) rfl rfl (Nat.le_of_ble_eq_true rfl) (Nat.le_of_ble_eq_true rfl) (show decode cX12_init 134 = .ok (.newarray .boolean, 2) by decide +kernel) (show TX12 31 = (RX12, "answered", "[Z", true) by decide +kernel) (wsm_6 (i := 64) rfl rfl) (by decide +kernel) (show decode cX12_init 136 = .ok (.putfield 62, 3) by decide +kernel) (fun q134 H locs h => ?_)
  obtain ⟨a, ha⟩ : ∃ a : Nat → Nat, a = fun k => if k < 15 then [h0, q8, q17, q26, q35, q54, q62, q71, q80, q93, q101, q110, q118, q126, q134].getD k 0 else ad0 k := ⟨_, rfl⟩
  have a0 : a 0 = h0 := by rw [ha]; rfl
  have a9 : ∀ k, 1000000 ≤ k → a k = ad0 k := fun k hk => by rw [ha]; exact if_neg (by omega)
  have hW : va_P D acl (bw12 ids a) H := by rw [ha]; exact h.1
  have hD : va_D A (bw12 ids a) := by rw [ha]; exact h.2.1
  have hS := h.2.2.1
  rw [bw12_aW] at hW hD
  have hX := hX0.ad a9
  rw [← a0] at hl
  have k0 : κM[0]? = some (12, 0) := rfl
  have k1 : κM[1]? = some (13, 1986) := rfl
  have k2 : κM[2]? = some (13, 1986) := rfl
  have okz : ∀ σ : Sg, σ.2 = sM0.2 → okσ κM σ := fun σ h k n j t _ hj => by
    rw [h] at hj
    cases hj
  refine lv_aload_n hx hb (show decode cX12_init 139 = .ok (.aload_n 0, 1) by decide +kernel) rfl (lv_at hl 0 rfl) ?_
  refine gw_get (ad := a) (c0 := 12) (n := 0) (j := 0) (k := 0) (q0 := 0) (f := (2, 1, 13, some 1986)) (σ := sM0) hx hb hts hown hK hW (aW_get k0) (by decide) rfl (by decide) (wsm_6 (i := 33) rfl rfl) (show decode cX12_init 140 = .ok (.getfield 7, 3) by decide +kernel) ?_
  show W p l e _ s m _ below meth c _ _ _ _ _ (F0 m 143 ls [.ref (a 1)])
  refine lv_bipush (v := 8) hx hb (show decode cX12_init 143 = .ok (.bipush 8, 2) by decide +kernel) (by decide) ?_
  refine lv_sipush (v := 163) hx hb (show decode cX12_init 145 = .ok (.sipush 163, 3) by decide +kernel) (by decide) ?_
  refine gw_iast (ad := a) (k := 1) (n := 1986) hx hb hK hW hD hS k1 (by decide) (show decode cX12_init 148 = .ok (.iastore, 1) by decide +kernel) (fun H locs hW hD hS => ?_)
  have hW : va_P D acl (aW ids a κM (wI sM0 1 8 163)) H := hW
  have hD : va_D A (aW ids a κM (wI sM0 1 8 163)) := hD
  refine lv_aload_n hx hb (show decode cX12_init 149 = .ok (.aload_n 0, 1) by decide +kernel) rfl (lv_at hl 0 rfl) ?_
  refine gw_get (ad := a) (c0 := 12) (n := 0) (j := 0) (k := 0) (q0 := 0) (f := (2, 1, 13, some 1986)) (σ := wI sM0 1 8 163) hx hb hts hown hK hW (aW_get k0) (by decide) rfl (by decide) (wsm_6 (i := 33) rfl rfl) (show decode cX12_init 150 = .ok (.getfield 7, 3) by decide +kernel) ?_
  show W p l e _ s m _ below meth c _ _ _ _ _ (F0 m 153 ls [.ref (a 1)])
  refine lv_iconst (v := 2) hx hb (show decode cX12_init 153 = .ok (.iconst 2, 1) by decide +kernel) (by decide) ?_
  refine lv_iconst (v := -1) hx hb (show decode cX12_init 154 = .ok (.iconst (-1), 1) by decide +kernel) (by decide) ?_
  refine gw_iast (ad := a) (k := 1) (n := 1986) hx hb hK hW hD hS k1 (by decide) (show decode cX12_init 155 = .ok (.iastore, 1) by decide +kernel) (fun H locs hW hD hS => ?_)
  have hW : va_P D acl (aW ids a κM sM1) H := hW
  have hD : va_D A (aW ids a κM sM1) := hD
  refine lv_aload_n hx hb (show decode cX12_init 156 = .ok (.aload_n 0, 1) by decide +kernel) rfl (lv_at hl 0 rfl) ?_
  refine gw_get (ad := a) (c0 := 12) (n := 0) (j := 0) (k := 0) (q0 := 0) (f := (2, 1, 13, some 1986)) (σ := sM1) hx hb hts hown hK hW (aW_get k0) (by decide) rfl (by decide) (wsm_6 (i := 33) rfl rfl) (show decode cX12_init 157 = .ok (.getfield 7, 3) by decide +kernel) ?_
  show W p l e _ s m _ below meth c _ _ _ _ _ (F0 m 160 ls [.ref (a 1)])
  refine lv_aload_n hx hb (show decode cX12_init 160 = .ok (.aload_n 0, 1) by decide +kernel) rfl (lv_at hl 0 rfl) ?_
  refine gw_get (ad := a) (c0 := 12) (n := 0) (j := 1) (k := 0) (q0 := 0) (f := (2, 2, 13, some 1986)) (σ := sM1) hx hb hts hown hK hW (aW_get k0) (by decide) rfl (by decide) (wsm_6 (i := 34) rfl rfl) (show decode cX12_init 161 = .ok (.getfield 13, 3) by decide +kernel) ?_
  show W p l e _ s m _ below meth c _ _ _ _ _ (F0 m 164 ls [.ref (a 2), .ref (a 1)])
  refine gw_callS (κ := κM) (ad := a) (P' := pX12_copy) (d' := 1) (σ := sM1) (σ' := sM9) [aR 13 1986 1, aR 13 1986 2] [] hx hb hml hl.1 hown hts ⟨Nat.le_of_ble_eq_true rfl, Nat.le_of_ble_eq_true rfl⟩ hK regM (okz _ rfl) (List.forall_mem_cons.mpr ⟨okv_of k1 (by decide), List.forall_mem_cons.mpr ⟨okv_of k2 (by decide), fun _ hn => absurd hn List.not_mem_nil⟩⟩) hW hD hS hA hX okp_X12_copy (show decode cX12_init 164 = .ok (.invokestatic 65, 3) by decide +kernel) (wsm_6 (i := 30) rfl rfl) tok_X12_copy nar_X12_copy ⟨rfl, rfl⟩ (Nat.le_of_ble_eq_true rfl) (ok_X12_copy (m_copy (by decide))) (fun _ _ H locs hW hS => ?_)
  have hD := aW_D (σ' := sM9) hD
  refine W.widen (k := 14) (n := 8483) (Nat.le_of_ble_eq_true rfl) (Nat.le_of_ble_eq_true rfl) ?_
  exact W.vret hx hb hr (fun t ht hWm => ⟨⟨(), rfl, trivial, a, a0, a9, by rw [ht]; exact hW, hD⟩, hS.F ht⟩) hS.2.2 (show decode cX12_init 167 = .ok (.return_, 1) by decide +kernel)
