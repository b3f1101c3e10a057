/-! Reader.read, over the kit's rows -/
theorem ext_get {ids : Ids} {ad : Nat → Nat} {κ : Kd} {σ : Sg} {W2 : va_W} {k : Nat} {q : Nat × Nat} (h : κ[k]? = some q) : (aW ids ad κ σ ++ W2)[k]? = some (ad k, ce ids ad σ k q) := by
  rw [List.getElem?_append_left (by rw [aW_len]; exact (List.getElem?_eq_some_iff.mp h).1)]
  exact aW_get h
theorem ext_new {ids : Ids} {ad : Nat → Nat} {κ : Kd} {σ : Sg} {W2 : va_W} (i : Nat) : (aW ids ad κ σ ++ W2)[κ.length + i]? = W2[i]? := by
  rw [List.getElem?_append_right (by rw [aW_len]; omega), aW_len, Nat.add_sub_cancel_left]
theorem ext_set {ids : Ids} {ad : Nat → Nat} {κ : Kd} {σ : Sg} {W2 : va_W} {x y : Nat × va_E} : (aW ids ad κ σ ++ (x :: W2)).set κ.length y = aW ids ad κ σ ++ (y :: W2) := by
  rw [List.set_append_right _ _ (by rw [aW_len]; exact Nat.le_refl _), aW_len, Nat.sub_self]
  rfl
def rmR : Room := { frames := 206, cells := 6, slots := 720, locals := 8240 }
abbrev tx0 : List Value := [.null, .null, .null, .null, .null]
theorem dfX6 : ∀ j, j < 5 → defaultValue (tyX6 j) = vp_V tx0 j := by
  intro j hj
  match j, hj with
  | 0, _ => rfl
  | 1, _ => rfl
  | 2, _ => rfl
  | 3, _ => rfl
  | 4, _ => rfl
  | j + 5, h => omega
set_option maxHeartbeats 4000000 in
set_option maxRecDepth 100000 in
theorem ct6 (l : Launch) (D : va_G) (ids : Ids) (h0 h1 h2 h3 h4 h5 sz : Nat) : Met l yX6_init (.code yX6_init cX6_init 6 none :: WS) { frames := 1, cells := 0, slots := 0, locals := 16 } (va_Pc [.ref h0, .ref h1, .ref h2, .ref h3, .ref h4, .ref h5] (fun U => U.heap.size = sz ∧ va_P D acl [(h0, .inr (6, tx0))] U.heap ∧ va_K D acl (atys ids) U ∧ va_D (fun _ => True) [(h0, .inr (6, tx0))])) (va_Qv (S := Unit) (fun _ => True) (fun _ t => va_P D acl [(h0, .inr (6, [.ref h1, .ref h2, .ref h3, .ref h4, .ref h5]))] t.heap) (va_A [(h0, .inr (6, tx0))] sz)) 0 0 (va_A [(h0, .inr (6, tx0))] sz) := by
  refine Met.ofW (cc := cX6_init) (maxL := 6) (ret := none) (by decide) rfl ?_
  intro p e s m args below meth c s₁ B hml hv
  obtain ⟨rfl, hsz, hP, hK, hD0⟩ := hv
  have hx := B.exec
  have hb := B.bytes
  have hr := B.returns
  have hts := atoms_spec (ws := .code yX6_init cX6_init 6 none :: WS) B.pre
  have hown : s.vm.findClass RX6 = some m.cls := findClass_of_methodNamed B.named
  have hlocks := B.notSynchronized
  have hin : meth.name = "<init>" := (name_of_methodNamed B.named B.method).1
  subst hsz
  have hD := hD0.self (sz := s.heap.size)
  generalize hAe : va_A [(h0, .inr (6, tx0))] s.heap.size = A at hD ⊢
  have hA : ∀ q : Nat, s.heap.size ≤ q → A q := fun q h => by rw [← hAe]; exact Or.inr h
  have hS : va_S A s.heap s.heap [] := va_S.rf
  have hP : va_P D acl [(h0, .inr (6, tx0))] s.heap := hP
  have hl := lv_entry ([.ref h0, .ref h1, .ref h2, .ref h3, .ref h4, .ref h5]) (n := 6) (Nat.le_of_ble_eq_true rfl)
  rw [lg_entry_eq]
  generalize (lg_sl ([.ref h0, .ref h1, .ref h2, .ref h3, .ref h4, .ref h5]) ++ List.replicate (6 - (lg_sl ([.ref h0, .ref h1, .ref h2, .ref h3, .ref h4, .ref h5])).length) Slot.unset).toArray = ls at hl ⊢
  have hl : lv_has ls 6 [(0, .ref h0), (1, .ref h1), (2, .ref h2), (3, .ref h3), (4, .ref h4), (5, .ref h5)] := hl
  refine lv_aload_n hx hb (show decode cX6_init 0 = .ok (.aload_n 0, 1) by decide +kernel) rfl (lv_at hl 0 rfl) ?_
  refine W.objInit hx hb hown (hts (.methodLink RX6 3 objectInit) (List.mem_cons_of_mem _ (wsm_3 (i := 199) rfl rfl))) (hts (.instanceMethod objectInit) (List.mem_cons_of_mem _ (wsm_1 (i := 30) rfl rfl))) (hts (.code objectInit ⟨#[0xb1]⟩ 1 none) (List.mem_cons_of_mem _ (wsm_1 (i := 31) rfl rfl))) rfl (by rw [hml]; exact hl.1) rfl (show decode cX6_init 1 = .ok (.invokespecial 3, 3) by decide +kernel) (Nat.le_of_ble_eq_true rfl) (Nat.le_of_ble_eq_true rfl) ?_
  refine W.eq (g2 := F0 m 4 ls []) rfl ?_
  refine lv_aload_n hx hb (show decode cX6_init 4 = .ok (.aload_n 0, 1) by decide +kernel) rfl (lv_at hl 0 rfl) ?_
  refine lv_aload_n hx hb (show decode cX6_init 5 = .ok (.aload_n 1, 1) by decide +kernel) rfl (lv_at hl 1 rfl) ?_
  refine va_putF (D := D) (ci := 6) (v := .ref h1) (ty := .array .int) (C := RX6) (T := TX6) (N := 5) hx hb hts (fun w hw => List.mem_cons_of_mem _ (uws_6 w hw)) tyX6 tyX6_ok nmX6 hown hK hP hD hS 0 rfl rfl 0 (by decide) (hts (.fieldLink RX6 9 "CoverFires$Text" "clauses" "[I") (List.mem_cons_of_mem _ (wsm_3 (i := 200) rfl rfl))) (fun _ h9 => h9) rfl hin rfl (by decide +kernel) rfl rfl (Nat.le_of_ble_eq_true rfl) (show decode cX6_init 6 = .ok (.putfield 9, 3) by decide +kernel) (fun H locs hP hD hS => ?_)
  have hP : va_P D acl [(h0, .inr (6, [.ref h1, .null, .null, .null, .null]))] H := hP
  have hD : va_D A [(h0, .inr (6, [.ref h1, .null, .null, .null, .null]))] := hD
  refine lv_aload_n hx hb (show decode cX6_init 9 = .ok (.aload_n 0, 1) by decide +kernel) rfl (lv_at hl 0 rfl) ?_
  refine lv_aload_n hx hb (show decode cX6_init 10 = .ok (.aload_n 2, 1) by decide +kernel) rfl (lv_at hl 2 rfl) ?_
  refine va_putF (D := D) (ci := 6) (v := .ref h2) (ty := .array .int) (C := RX6) (T := TX6) (N := 5) hx hb hts (fun w hw => List.mem_cons_of_mem _ (uws_6 w hw)) tyX6 tyX6_ok nmX6 hown hK hP hD hS 0 rfl rfl 1 (by decide) (hts (.fieldLink RX6 15 "CoverFires$Text" "signs" "[I") (List.mem_cons_of_mem _ (wsm_3 (i := 201) rfl rfl))) (fun _ h9 => h9) rfl hin rfl (by decide +kernel) rfl rfl (Nat.le_of_ble_eq_true rfl) (show decode cX6_init 11 = .ok (.putfield 15, 3) by decide +kernel) (fun H locs hP hD hS => ?_)
  have hP : va_P D acl [(h0, .inr (6, [.ref h1, .ref h2, .null, .null, .null]))] H := hP
  have hD : va_D A [(h0, .inr (6, [.ref h1, .ref h2, .null, .null, .null]))] := hD
  refine lv_aload_n hx hb (show decode cX6_init 14 = .ok (.aload_n 0, 1) by decide +kernel) rfl (lv_at hl 0 rfl) ?_
  refine lv_aload_n hx hb (show decode cX6_init 15 = .ok (.aload_n 3, 1) by decide +kernel) rfl (lv_at hl 3 rfl) ?_
  refine va_putF (D := D) (ci := 6) (v := .ref h3) (ty := .array .int) (C := RX6) (T := TX6) (N := 5) hx hb hts (fun w hw => List.mem_cons_of_mem _ (uws_6 w hw)) tyX6 tyX6_ok nmX6 hown hK hP hD hS 0 rfl rfl 2 (by decide) (hts (.fieldLink RX6 18 "CoverFires$Text" "arguments" "[I") (List.mem_cons_of_mem _ (wsm_3 (i := 202) rfl rfl))) (fun _ h9 => h9) rfl hin rfl (by decide +kernel) rfl rfl (Nat.le_of_ble_eq_true rfl) (show decode cX6_init 16 = .ok (.putfield 18, 3) by decide +kernel) (fun H locs hP hD hS => ?_)
  have hP : va_P D acl [(h0, .inr (6, [.ref h1, .ref h2, .ref h3, .null, .null]))] H := hP
  have hD : va_D A [(h0, .inr (6, [.ref h1, .ref h2, .ref h3, .null, .null]))] := hD
  refine lv_aload_n hx hb (show decode cX6_init 19 = .ok (.aload_n 0, 1) by decide +kernel) rfl (lv_at hl 0 rfl) ?_
  refine lv_aload hx hb (show decode cX6_init 20 = .ok (.aload 4, 2) by decide +kernel) (lv_at hl 4 rfl) ?_
  refine va_putF (D := D) (ci := 6) (v := .ref h4) (ty := .array .int) (C := RX6) (T := TX6) (N := 5) hx hb hts (fun w hw => List.mem_cons_of_mem _ (uws_6 w hw)) tyX6 tyX6_ok nmX6 hown hK hP hD hS 0 rfl rfl 3 (by decide) (hts (.fieldLink RX6 21 "CoverFires$Text" "starts" "[I") (List.mem_cons_of_mem _ (wsm_3 (i := 203) rfl rfl))) (fun _ h9 => h9) rfl hin rfl (by decide +kernel) rfl rfl (Nat.le_of_ble_eq_true rfl) (show decode cX6_init 22 = .ok (.putfield 21, 3) by decide +kernel) (fun H locs hP hD hS => ?_)
  have hP : va_P D acl [(h0, .inr (6, [.ref h1, .ref h2, .ref h3, .ref h4, .null]))] H := hP
  have hD : va_D A [(h0, .inr (6, [.ref h1, .ref h2, .ref h3, .ref h4, .null]))] := hD
  refine lv_aload_n hx hb (show decode cX6_init 25 = .ok (.aload_n 0, 1) by decide +kernel) rfl (lv_at hl 0 rfl) ?_
  refine lv_aload hx hb (show decode cX6_init 26 = .ok (.aload 5, 2) by decide +kernel) (lv_at hl 5 rfl) ?_
  refine va_putF (D := D) (ci := 6) (v := .ref h5) (ty := .array .int) (C := RX6) (T := TX6) (N := 5) hx hb hts (fun w hw => List.mem_cons_of_mem _ (uws_6 w hw)) tyX6 tyX6_ok nmX6 hown hK hP hD hS 0 rfl rfl 4 (by decide) (hts (.fieldLink RX6 24 "CoverFires$Text" "ends" "[I") (List.mem_cons_of_mem _ (wsm_3 (i := 204) rfl rfl))) (fun _ h9 => h9) rfl hin rfl (by decide +kernel) rfl rfl (Nat.le_of_ble_eq_true rfl) (show decode cX6_init 28 = .ok (.putfield 24, 3) by decide +kernel) (fun H locs hP hD hS => ?_)
  have hP : va_P D acl [(h0, .inr (6, [.ref h1, .ref h2, .ref h3, .ref h4, .ref h5]))] H := hP
  have hD : va_D A [(h0, .inr (6, [.ref h1, .ref h2, .ref h3, .ref h4, .ref h5]))] := hD
  exact W.vret hx hb hr (fun t ht hW => ⟨⟨(), rfl, trivial, (show va_P D acl _ t.heap by rw [ht]; exact hP)⟩, hS.F ht⟩) hS.2.2 (show decode cX6_init 31 = .ok (.return_, 1) by decide +kernel)
set_option maxHeartbeats 4000000 in
set_option maxRecDepth 100000 in
theorem rd_loop {p : Program} {l : Launch} {e : Env} {s : State} {m : MethodId} {args : Array Value} {below : List Frame} {meth : Method} {c : Code} {w0 : Cond} {D : va_G} {ids : Ids} {A : Nat → Prop} {κ : Kd} {ad : Nat → Nat} {Q : State → Prop} {σ9 : Sg} (hx : p.tables.exec = Jvm.exec) (hb : c.code = cX3_read) (hml : c.maxLocals = 4) (hown : s.vm.findClass RX3 = some m.cls) (hts : ∀ w ∈ w0 :: WS, w.before args s = true) (hK : va_K D acl (atys ids) s) (hR : Reg κ) (k49 : κ[49]? = some (3, 0)) (k50 : κ[50]? = some (7, 0)) (hA : ∀ q, s.heap.size ≤ q → A q) (hX : XK ad A s s.heap) (kk : ∀ (H1 : Heap) (locs1 : List Loc) (ls1 : Array Slot), okσ κ σ9 → va_P D acl (aW ids ad κ σ9) H1 → va_D A (aW ids ad κ σ9) → va_S A s.heap H1 locs1 → lv_has ls1 4 [(0, .ref (ad 49))] → W p l e rmR s m args below meth c H1 locs1 0 0 Q (F0 m 47 ls1 [])) : ∀ (k i : Nat) (σ : Sg) (H : Heap) (locs : List Loc) (ls : Array Slot), k + i = 25 → xloop k σ = some σ9 → okσ κ σ → va_P D acl (aW ids ad κ σ) H → va_D A (aW ids ad κ σ) → va_S A s.heap H locs → lv_has ls 4 [(3, .int (nI i)), (0, .ref (ad 49))] → W p l e rmR s m args below meth c H locs 0 0 Q (F0 m 15 ls []) := by
  intro k
  induction k with
  | zero =>
    intro i σ H locs ls hi h hok hW hD hS hl
    cases h
    have i25 : i = 25 := by omega
    subst i25
    refine lv_iload_n hx hb (show decode cX3_read 15 = .ok (.iload_n 3, 1) by decide +kernel) rfl (lv_at hl 0 rfl) ?_
    refine lv_bipush (v := 24) hx hb (show decode cX3_read 16 = .ok (.bipush 24, 2) by decide +kernel) (by decide) ?_
    refine lv_icmp_gt (tgt := 47) hx hb (show decode cX3_read 18 = .ok (.if_icmp .gt 29, 3) by decide +kernel) (by decide) (fun _ => ?_) (fun z => absurd (show (24 : Int32) < nI 25 by decide) z)
    exact kk H locs ls hok hW hD hS (lv_sub hl [1] rfl)
  | succ k ih =>
    intro i σ H locs ls hi h hok hW hD hS hl
    obtain ⟨r, σ1, h1, h2⟩ := bnd_some (show (bnd (f_X7_kind (σ.1 49 4) σ) fun r σ1 => if r = 45 then some σ1 else bndV (f_X3_clause σ1) (xloop k)) = some σ9 from h)
    have ng : ¬ ((24 : Int32) < nI i) := fun z => absurd ((nI_ltI (a := 24) (by decide) (by omega)).mp z) (by omega)
    refine lv_iload_n hx hb (show decode cX3_read 15 = .ok (.iload_n 3, 1) by decide +kernel) rfl (lv_at hl 0 rfl) ?_
    refine lv_bipush (v := 24) hx hb (show decode cX3_read 16 = .ok (.bipush 24, 2) by decide +kernel) (by decide) ?_
    refine lv_icmp_gt (tgt := 47) hx hb (show decode cX3_read 18 = .ok (.if_icmp .gt 29, 3) by decide +kernel) (by decide) (fun z => absurd z ng) (fun _ => ?_)
    refine lv_aload_n hx hb (show decode cX3_read 21 = .ok (.aload_n 0, 1) by decide +kernel) rfl (lv_at hl 1 rfl) ?_
    refine gw_get (c0 := 3) (n := 0) (j := 3) (k := 49) (q0 := 49) (f := (2, 1, 7, some 0)) (σ := σ) hx hb hts hown hK hW (aW_get k49) (by decide) rfl (by decide) (wsm_2 (i := 2) rfl rfl) (show decode cX3_read 22 = .ok (.getfield 12, 3) by decide +kernel) ?_
    show W p l e rmR s m args below meth c H locs 0 0 Q (F0 m 25 ls [.ref (ad 50)])
    refine lv_aload_n hx hb (show decode cX3_read 25 = .ok (.aload_n 0, 1) by decide +kernel) rfl (lv_at hl 1 rfl) ?_
    refine gw_get (c0 := 3) (n := 0) (j := 4) (k := 49) (q0 := 49) (f := (0, 0, 0, none)) (σ := σ) hx hb hts hown hK hW (aW_get k49) (by decide) rfl (by decide) (wsm_2 (i := 3) rfl rfl) (show decode cX3_read 26 = .ok (.getfield 43, 3) by decide +kernel) ?_
    show W p l e rmR s m args below meth c H locs 0 0 Q (F0 m 29 ls [.int (σ.1 49 4), .ref (ad 50)])
    refine gw_call (κ := κ) (ad := ad) (P' := pX7_kind) (d' := 1) (c0 := 7) (n := 0) (k := 50) [aI (σ.1 49 4)] [] hx hb hml hl.1 hown hts ⟨Nat.zero_le _, Nat.zero_le _⟩ hK hR hok (List.forall_mem_cons.mpr ⟨okv_of k50 (by decide), List.forall_mem_cons.mpr ⟨trivial, (fun _ hn => absurd hn List.not_mem_nil)⟩⟩) hW hD hS hA hX okp_X7_kind (show decode cX3_read 29 = .ok (.invokevirtual 47, 3) by decide +kernel) (wsm_3 (i := 89) rfl rfl) vok_X7_kind (by decide) rfl nar_X7_kind ⟨rfl, rfl⟩ (Nat.le_of_ble_eq_true rfl) (ok_X7_kind h1) (fun hok _ H locs hW hS => ?_)
    have hD := aW_D (σ' := σ1) hD
    show W p l e rmR s m args below meth c H locs 0 0 Q (F0 m 32 ls [.int r])
    refine lv_bipush (v := 45) hx hb (show decode cX3_read 32 = .ok (.bipush 45, 2) by decide +kernel) (by decide) ?_
    refine lv_icmp_eq (tgt := 47) hx hb (show decode cX3_read 34 = .ok (.if_icmp .eq 13, 3) by decide +kernel) (by decide) (fun z => ?_) (fun z => ?_)
    · rw [if_pos z] at h2
      cases h2
      exact kk H locs ls hok hW hD hS (lv_sub hl [1] rfl)
    · rw [if_neg z] at h2
      obtain ⟨σ2, h3, h4⟩ := bndV_some h2
      refine lv_aload_n hx hb (show decode cX3_read 37 = .ok (.aload_n 0, 1) by decide +kernel) rfl (lv_at hl 1 rfl) ?_
      refine gw_call (κ := κ) (ad := ad) (P' := pX3_clause) (d' := 205) (c0 := 3) (n := 0) (k := 49) [] [] hx hb hml hl.1 hown hts ⟨Nat.zero_le _, Nat.zero_le _⟩ hK hR hok (List.forall_mem_cons.mpr ⟨okv_of k49 (by decide), (fun _ hn => absurd hn List.not_mem_nil)⟩) hW hD hS hA hX okp_X3_clause (show decode cX3_read 38 = .ok (.invokevirtual 51, 3) by decide +kernel) (wsm_3 (i := 93) rfl rfl) vok_X3_clause (by decide) rfl nar_X3_clause ⟨rfl, rfl⟩ (Nat.le_of_ble_eq_true rfl) (ok_X3_clause h3) (fun hok _ H locs hW hS => ?_)
      have hD := aW_D (σ' := σ2) hD
      show W p l e rmR s m args below meth c H locs 0 0 Q (F0 m 41 ls [])
      refine lv_iinc (lv' := [(3, .int (nI (i + 1))), (0, .ref (ad 49))]) (k := 0) hx hb (show decode cX3_read 41 = .ok (.iinc 3 1, 3) by decide +kernel) hl rfl (show nI i + Int32.ofInt 1 = nI (i + 1) from nI_add _ _) (by decide) rfl (fun ls hl => ?_)
      refine lv_goto (tgt := 15) hx hb (show decode cX3_read 44 = .ok (.goto (-29), 3) by decide +kernel) (by decide) ?_
      exact ih (i + 1) σ2 H locs ls (by omega) h4 hok hW hD hS hl
set_option maxHeartbeats 4000000 in
set_option maxRecDepth 100000 in
theorem rd_pre {p : Program} {l : Launch} {e : Env} {s : State} {m : MethodId} {args : Array Value} {below : List Frame} {meth : Method} {c : Code} {w0 : Cond} {D : va_G} {ids : Ids} {A : Nat → Prop} {κ : Kd} {ad : Nat → Nat} {Q : State → Prop} {σ9 : Sg} (hx : p.tables.exec = Jvm.exec) (hb : c.code = cX3_read) (hml : c.maxLocals = 4) (hown : s.vm.findClass RX3 = some m.cls) (hts : ∀ w ∈ w0 :: WS, w.before args s = true) (hK : va_K D acl (atys ids) s) (hR : Reg κ) (k49 : κ[49]? = some (3, 0)) (k50 : κ[50]? = some (7, 0)) (k70 : κ[70]? = some (13, 300)) (hA : ∀ q, s.heap.size ≤ q → A q) (hX : XK ad A s s.heap) (kk : ∀ (H1 : Heap) (locs1 : List Loc) (ls1 : Array Slot), okσ κ σ9 → va_P D acl (aW ids ad κ σ9) H1 → va_D A (aW ids ad κ σ9) → va_S A s.heap H1 locs1 → lv_has ls1 4 [(0, .ref (ad 49))] → W p l e rmR s m args below meth c H1 locs1 0 0 Q (F0 m 47 ls1 [])) {σ a b : Sg} {L : Int32} {H : Heap} {locs : List Loc} {ls : Array Slot} (h1 : f_X3_begin σ = some a) (h2 : f_X7_cut L a = some b) (h3 : xloop 25 b = some σ9) (hok : okσ κ σ) (hW : va_P D acl (aW ids ad κ σ) H) (hD : va_D A (aW ids ad κ σ)) (hS : va_S A s.heap H locs) (hl : lv_has ls 4 [(0, .ref (ad 49)), (1, .ref (ad 70)), (2, .int L)]) : W p l e rmR s m args below meth c H locs 0 0 Q (F0 m 0 ls []) := by
  refine lv_aload_n hx hb (show decode cX3_read 0 = .ok (.aload_n 0, 1) by decide +kernel) rfl (lv_at hl 0 rfl) ?_
  refine gw_call (κ := κ) (ad := ad) (P' := pX3_begin) (d' := 1) (c0 := 3) (n := 0) (k := 49) [] [] hx hb hml hl.1 hown hts ⟨Nat.zero_le _, Nat.zero_le _⟩ hK hR hok (List.forall_mem_cons.mpr ⟨okv_of k49 (by decide), (fun _ hn => absurd hn List.not_mem_nil)⟩) hW hD hS hA hX okp_X3_begin (show decode cX3_read 1 = .ok (.invokevirtual 36, 3) by decide +kernel) (wsm_2 (i := 180) rfl rfl) vok_X3_begin (by decide) rfl nar_X3_begin ⟨rfl, rfl⟩ (Nat.le_of_ble_eq_true rfl) (ok_X3_begin h1) (fun hok _ H locs hW hS => ?_)
  have hD := aW_D (σ' := a) hD
  show W p l e rmR s m args below meth c H locs 0 0 Q (F0 m 4 ls [])
  refine lv_aload_n hx hb (show decode cX3_read 4 = .ok (.aload_n 0, 1) by decide +kernel) rfl (lv_at hl 0 rfl) ?_
  refine gw_get (c0 := 3) (n := 0) (j := 3) (k := 49) (q0 := 49) (f := (2, 1, 7, some 0)) (σ := a) hx hb hts hown hK hW (aW_get k49) (by decide) rfl (by decide) (wsm_2 (i := 2) rfl rfl) (show decode cX3_read 5 = .ok (.getfield 12, 3) by decide +kernel) ?_
  show W p l e rmR s m args below meth c H locs 0 0 Q (F0 m 8 ls [.ref (ad 50)])
  refine lv_aload_n hx hb (show decode cX3_read 8 = .ok (.aload_n 1, 1) by decide +kernel) rfl (lv_at hl 1 rfl) ?_
  refine lv_iload_n hx hb (show decode cX3_read 9 = .ok (.iload_n 2, 1) by decide +kernel) rfl (lv_at hl 2 rfl) ?_
  refine gw_call (κ := κ) (ad := ad) (P' := pX7_cut) (d' := 10) (c0 := 7) (n := 0) (k := 50) [aR 13 300 70, aI L] [] hx hb hml hl.1 hown hts ⟨Nat.zero_le _, Nat.zero_le _⟩ hK hR hok (List.forall_mem_cons.mpr ⟨okv_of k50 (by decide), List.forall_mem_cons.mpr ⟨okv_of k70 (by decide), List.forall_mem_cons.mpr ⟨trivial, fun _ hn => absurd hn List.not_mem_nil⟩⟩⟩) hW hD hS hA hX okp_X7_cut (show decode cX3_read 10 = .ok (.invokevirtual 39, 3) by decide +kernel) (wsm_2 (i := 184) rfl rfl) vok_X7_cut (by decide) rfl nar_X7_cut ⟨rfl, rfl⟩ (Nat.le_of_ble_eq_true rfl) (ok_X7_cut h2) (fun hok _ H locs hW hS => ?_)
  have hD := aW_D (σ' := b) hD
  show W p l e rmR s m args below meth c H locs 0 0 Q (F0 m 13 ls [])
  refine lv_iconst (v := 0) hx hb (show decode cX3_read 13 = .ok (.iconst 0, 1) by decide +kernel) (by decide) ?_
  refine lv_istore_n (lv' := [(3, .int (nI 0)), (0, .ref (ad 49)), (1, .ref (ad 70)), (2, .int L)]) hx hb (show decode cX3_read 14 = .ok (.istore_n 3, 1) by decide +kernel) rfl hl (by decide) rfl (fun ls hl => ?_)
  exact rd_loop hx hb hml hown hts hK hR k49 k50 hA hX kk 25 0 b H locs ls rfl h3 hok hW hD hS (lv_sub hl [0, 1] rfl)
