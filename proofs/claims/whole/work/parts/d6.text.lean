/-! CoverFires.text, over the kit's rows -/
def rmT : Room := { frames := 207, cells := 6, slots := 720, locals := 8300 }
def tSg (R t : Nat) (σ : Sg) : Sg := wI (wQ (wI (eSg R σ) 0 10 0) 13 t (some R)) 1 4 (nI (t + 1))
theorem NF_t {R t n z : Nat} {σ : Sg} (hR : 72 ≤ R) : NF R t n z σ (tSg R t σ) := by
  have g : ∀ a j, ¬ (a = 0 ∧ j = 10) → ¬ (a = 1 ∧ j = 4) → (tSg R t σ).1 a j = (eSg R σ).1 a j := fun a j h1 h2 => by
    show (if a = 1 ∧ j = 4 then _ else (if a = 0 ∧ j = 10 then _ else _)) = _
    rw [if_neg h2, if_neg h1]
  refine ⟨fun a j h1 h2 h3 => by rw [g a j h2 h3, eSg_lt h1], ?_, ?_, fun a j => rfl, fun j hj => ?_, fun j hj => ⟨?_, ?_⟩, fun j hj => ⟨?_, ?_⟩⟩
  · show (if (0 : Nat) = 1 ∧ (10 : Nat) = 4 then nI (t + 1) else (if (0 : Nat) = 0 ∧ (10 : Nat) = 10 then (0 : Int32) else (eSg R σ).1 0 10)) = _
    rw [if_neg (by decide), if_pos (by decide)]
    rfl
  · show (if (1 : Nat) = 1 ∧ (4 : Nat) = 4 then nI (t + 1) else (wQ (wI (eSg R σ) 0 10 0) 13 t (some R)).1 1 4) = _
    rw [if_pos (by decide)]
  · rw [g _ _ (by omega) (by omega)]
    show (if R + 1 < R then _ else _) = _
    rw [if_neg (by omega), if_pos rfl]
  · rw [g _ _ (by omega) (by omega)]
    show (if R + 2 < R then _ else _) = _
    rw [if_neg (by omega), if_neg (by omega), if_pos rfl]
  · rw [g _ _ (by omega) (by omega)]
    show (if R + 3 < R then _ else _) = _
    rw [if_neg (by omega), if_neg (by omega), if_neg (by omega), if_pos rfl]
  · rw [g _ _ (by omega) (by omega)]
    show (if R + 4 < R then _ else _) = _
    rw [if_neg (by omega), if_neg (by omega), if_neg (by omega), if_neg (by omega), if_pos rfl]
  · rw [g _ _ (by omega) (by omega)]
    show (if R + 5 < R then _ else _) = _
    rw [if_neg (by omega), if_neg (by omega), if_neg (by omega), if_neg (by omega), if_neg (by omega), if_pos rfl]
theorem x_shelve {R t : Nat} {σ : Sg} (hR : 72 ≤ R) (ht : t < 4) (h : σ.1 1 4 = nI t) : f_X10_shelve 1 R (wI (eSg R σ) 0 10 0) = some (nI t, tSg R t σ) := by
  have e : (wI (eSg R σ) 0 10 0).1 1 4 = nI t := by
    rw [e_ne1 (by decide), eSg_lt (by omega)]
    exact h
  have i0 : ix (nI t) = t := e_ix (by omega)
  unfold f_X10_shelve
  rw [e, if_pos (show nI t < 4 from nI_lt (b := 4) ht (by decide)), grd_of (by rw [e_inb ht (by decide)]; rfl), e_lt, i0]
  have e2 : (wQ (wI (eSg R σ) 0 10 0) (1 + 12) t (some R)).1 1 4 = nI t := e
  rw [e2, show nI t + 1 = nI (t + 1) from nI_add _ _, e_lt, e_hit, show nI (t + 1) - 1 = nI t from e_sub (b := 1) (by omega)]
  rfl
theorem gw_put {p : Program} {l : Launch} {e : Env} {R : Room} {s : State} {m : MethodId} {args : Array Value} {below : List Frame} {meth : Method} {c : Code} {H : Heap} {locs : List Loc} {cells slots : Nat} {Q : State → Prop} {cc : ByteArray} {ls : Array Slot} {own : String} {w0 : Cond} {pc idx : Nat} {D : va_G} {ids : Ids} {A : Nat → Prop} {κ : Kd} {ad : Nat → Nat} {σ : Sg} {c0 n j k : Nat} {y : Int32} {rest : List Value} (hx : p.tables.exec = Jvm.exec) (hb : c.code = cc) (hts : ∀ w ∈ w0 :: WS, w.before args s = true) (hown : s.vm.findClass own = some m.cls) (hK : va_K D acl (atys ids) s) (hW : va_P D acl (aW ids ad κ σ) H) (hD : va_D A (aW ids ad κ σ)) (hS : va_S A s.heap H locs) (hk : κ[k]? = some (c0, n)) (hc : c0 < 13) (hf : (flds c0)[j]? = some (0, 0, 0, none)) (hj : j < (cN c0).2.2) (hl : Cond.fieldLink own idx ((cN c0).2.1 j).1 ((cN c0).2.1 j).2.1 ((cN c0).2.1 j).2.2.1 ∈ WS) (hd : decode cc pc = .ok (.putfield idx, 3))
    (kk : ∀ (H1 : Heap) (locs1 : List Loc), va_P D acl (aW ids ad κ (wI σ k j y)) H1 → va_D A (aW ids ad κ (wI σ k j y)) → va_S A s.heap H1 locs1 → W p l e R s m args below meth c H1 locs1 cells slots Q (F0 m (pc + 3) ls rest)) : W p l e R s m args below meth c H locs cells slots Q (F0 m pc ls (.int y :: .ref (ad k) :: rest)) := by
  obtain ⟨hty, hfin⟩ := fk_fact hc hj hf (by decide)
  exact va_put hx hb hts (fun w hw => List.mem_cons_of_mem _ (cN_ws hc w hw)) (tyN c0) (cN_ty hc) (cN_nm hc) hown hK hW hD hS k ((aW_get hk).trans (by rw [ce_obj hc])) (acl_cN hc) j hj (hts _ (List.mem_cons_of_mem _ hl)) (fun _ h9 => h9) hfin (v := .int y) (ty := .int) (by rw [cN_ty hc _ hj, hty]; rfl) rfl rfl (by rw [List.length_mapIdx, flds_len hc]; exact hj) hd (fun H1 locs1 hW1 hD1 hS1 => kk H1 locs1 (by rw [← aW_fI hk hc hf (Or.inl rfl)]; exact hW1) (by rw [← aW_fI hk hc hf (Or.inl rfl)]; exact hD1) hS1)
set_option maxHeartbeats 8000000 in
set_option maxRecDepth 100000 in
theorem ct_text_full (l : Launch) (D : va_G) (ids : Ids) (ad : Nat → Nat) (κ : Kd) (σ : Sg) (sz : Nat) (hR : Reg κ) (hok : okσ κ σ) (hKK : KOK κ) (hpre : ∀ k, k < 72 → κ[k]? = κX0[k]?) (h4 : σ.1 1 4 = nI 4) : Met l yX11_text (.code yX11_text cX11_text 2 (some .int) :: WS) rmT (va_Pc [.ref (ad 0)] (RPre D ids ad κ σ sz)) (fun _ st oc t => (∃ ad2 : Nat → Nat, (∀ k, (k < 72 ∨ 1000000 ≤ k) → ad2 k = ad k) ∧ oc = .returned (some (.int (-1))) ∧ va_P D acl (aW ids ad2 κ σ) t.heap ∧ va_D (va_A (aW ids ad κ σ) sz) (aW ids ad2 κ σ)) ∧ va_F (va_A (aW ids ad κ σ) sz) st t) 6 720 (va_A (aW ids ad κ σ) sz) := by
  refine Met.ofW (cc := cX11_text) (maxL := 2) (ret := some .int) (by decide) rfl ?_
  intro p e s m args below meth c s₁ B hml hv
  obtain ⟨rfl, hsz, hW, hK, hD0, hX0, hC⟩ := hv
  have hx := B.exec
  have hb := B.bytes
  have hr := B.returns
  have hts := atoms_spec (ws := .code yX11_text cX11_text 2 (some .int) :: WS) B.pre
  have hown : s.vm.findClass RX11 = some m.cls := findClass_of_methodNamed B.named
  have hlocks := B.notSynchronized
  subst hsz
  have hD := hD0.self (sz := s.heap.size)
  have hA0 : ∀ q : Nat, s.heap.size ≤ q → va_A (aW ids ad κ σ) s.heap.size q := fun q h => Or.inr h
  generalize hAe : va_A (aW ids ad κ σ) s.heap.size = A at hD hX0 hA0 ⊢
  have hl := lv_entry ([.ref (ad 0)]) (n := 2) (Nat.le_of_ble_eq_true rfl)
  rw [lg_entry_eq]
  generalize (lg_sl ([.ref (ad 0)]) ++ List.replicate (2 - (lg_sl ([.ref (ad 0)])).length) Slot.unset).toArray = ls at hl ⊢
  have hl : lv_has ls 2 [(0, .ref (ad 0))] := hl
  have hS : va_S A s.heap s.heap [] := va_S.rf
  have k0 : κ[0]? = some (11, 0) := (hpre 0 (by decide)).trans rfl
  have k1 : κ[1]? = some (10, 0) := (hpre 1 (by decide)).trans rfl
  have k49 : κ[49]? = some (3, 0) := (hpre 49 (by decide)).trans rfl
  have k50 : κ[50]? = some (7, 0) := (hpre 50 (by decide)).trans rfl
  have k54 : κ[54]? = some (13, 96) := (hpre 54 (by decide)).trans rfl
  have k55 : κ[55]? = some (13, 300) := (hpre 55 (by decide)).trans rfl
  have k56 : κ[56]? = some (13, 300) := (hpre 56 (by decide)).trans rfl
  have k57 : κ[57]? = some (13, 3) := (hpre 57 (by decide)).trans rfl
  have k58 : κ[58]? = some (13, 3) := (hpre 58 (by decide)).trans rfl
  have k70 : κ[70]? = some (13, 300) := (hpre 70 (by decide)).trans rfl
  refine W.widen (k := 0) (n := 0) (Nat.le_refl _) (Nat.le_refl _) ?_
  refine lv_aload_n hx hb (show decode cX11_text 0 = .ok (.aload_n 0, 1) by decide +kernel) rfl (lv_at hl 0 rfl) ?_
  refine gw_get (ad := ad) (c0 := 11) (n := 0) (j := 0) (k := 0) (q0 := 0) (f := (2, 1, 10, some 0)) (σ := σ) hx hb hts hown hK hW (aW_get k0) (by decide) rfl (by decide) (wsm_2 (i := 102) rfl rfl) (show decode cX11_text 1 = .ok (.getfield 10, 3) by decide +kernel) ?_
  show W p l e rmT s m _ below meth c _ _ _ _ _ (F0 m 4 ls [.ref (ad 1)])
  refine gw_get (ad := ad) (c0 := 10) (n := 0) (j := 4) (k := 1) (q0 := 1) (f := (0, 0, 0, none)) (σ := σ) hx hb hts hown hK hW (aW_get k1) (by decide) rfl (by decide) (wsm_1 (i := 139) rfl rfl) (show decode cX11_text 4 = .ok (.getfield 101, 3) by decide +kernel) ?_
  show W p l e rmT s m _ below meth c _ _ _ _ _ (F0 m 7 ls [.int (σ.1 1 4)])
  refine lv_iconst (v := 4) hx hb (show decode cX11_text 7 = .ok (.iconst 4, 1) by decide +kernel) (by decide) ?_
  refine lv_icmp_lt (tgt := 13) hx hb (show decode cX11_text 8 = .ok (.if_icmp .lt 5, 3) by decide +kernel) (by decide) (fun z => absurd z (by rw [h4]; decide)) (fun _ => ?_)
  refine lv_iconst (v := -1) hx hb (show decode cX11_text 11 = .ok (.iconst (-1), 1) by decide +kernel) (by decide) ?_
  refine W.widen (k := 6) (n := 720) (Nat.zero_le _) (Nat.zero_le _) ?_
  exact W.iret hx hb hr (fun t ht hWm => ⟨⟨ad, fun _ _ => rfl, rfl, by rw [ht]; exact hW, hD⟩, hS.F ht⟩) hS.2.2 (show decode cX11_text 12 = .ok (.ireturn, 1) by decide +kernel)
set_option maxHeartbeats 8000000 in
set_option maxRecDepth 100000 in
theorem ct_text_no (l : Launch) (D : va_G) (ids : Ids) (ad : Nat → Nat) (κ : Kd) (σ : Sg) (sz : Nat) (hR : Reg κ) (hok : okσ κ σ) (hKK : KOK κ) (hpre : ∀ k, k < 72 → κ[k]? = κX0[k]?) (a b σ9 : Sg) (t : Nat) (ht : t < 4) (h4 : σ.1 1 4 = nI t) (h1 : f_X3_begin σ = some a) (h2 : f_X7_cut (σ.1 0 10) a = some b) (h3 : xloop 25 b = some σ9) (hf : ¬ σ9.1 49 1 = 0) : Met l yX11_text (.code yX11_text cX11_text 2 (some .int) :: WS) rmT (va_Pc [.ref (ad 0)] (RPre D ids ad κ σ sz)) (fun _ st oc t => (∃ ad2 : Nat → Nat, (∀ k, (k < 72 ∨ 1000000 ≤ k) → ad2 k = ad k) ∧ oc = .returned (some (.int (-1))) ∧ va_P D acl (aW ids ad2 κ (wI σ9 0 10 0)) t.heap ∧ va_D (va_A (aW ids ad κ σ) sz) (aW ids ad2 κ (wI σ9 0 10 0))) ∧ va_F (va_A (aW ids ad κ σ) sz) st t) 6 720 (va_A (aW ids ad κ σ) sz) := by
  refine Met.ofW (cc := cX11_text) (maxL := 2) (ret := some .int) (by decide) rfl ?_
  intro p e s m args below meth c s₁ B hml hv
  obtain ⟨rfl, hsz, hW, hK, hD0, hX0, hC⟩ := hv
  have hx := B.exec
  have hb := B.bytes
  have hr := B.returns
  have hts := atoms_spec (ws := .code yX11_text cX11_text 2 (some .int) :: WS) B.pre
  have hown : s.vm.findClass RX11 = some m.cls := findClass_of_methodNamed B.named
  have hlocks := B.notSynchronized
  subst hsz
  have hD := hD0.self (sz := s.heap.size)
  have hA0 : ∀ q : Nat, s.heap.size ≤ q → va_A (aW ids ad κ σ) s.heap.size q := fun q h => Or.inr h
  generalize hAe : va_A (aW ids ad κ σ) s.heap.size = A at hD hX0 hA0 ⊢
  have hl := lv_entry ([.ref (ad 0)]) (n := 2) (Nat.le_of_ble_eq_true rfl)
  rw [lg_entry_eq]
  generalize (lg_sl ([.ref (ad 0)]) ++ List.replicate (2 - (lg_sl ([.ref (ad 0)])).length) Slot.unset).toArray = ls at hl ⊢
  have hl : lv_has ls 2 [(0, .ref (ad 0))] := hl
  have hS : va_S A s.heap s.heap [] := va_S.rf
  have k0 : κ[0]? = some (11, 0) := (hpre 0 (by decide)).trans rfl
  have k1 : κ[1]? = some (10, 0) := (hpre 1 (by decide)).trans rfl
  have k49 : κ[49]? = some (3, 0) := (hpre 49 (by decide)).trans rfl
  have k50 : κ[50]? = some (7, 0) := (hpre 50 (by decide)).trans rfl
  have k54 : κ[54]? = some (13, 96) := (hpre 54 (by decide)).trans rfl
  have k55 : κ[55]? = some (13, 300) := (hpre 55 (by decide)).trans rfl
  have k56 : κ[56]? = some (13, 300) := (hpre 56 (by decide)).trans rfl
  have k57 : κ[57]? = some (13, 3) := (hpre 57 (by decide)).trans rfl
  have k58 : κ[58]? = some (13, 3) := (hpre 58 (by decide)).trans rfl
  have k70 : κ[70]? = some (13, 300) := (hpre 70 (by decide)).trans rfl
  refine W.widen (k := 0) (n := 0) (Nat.le_refl _) (Nat.le_refl _) ?_
  refine lv_aload_n hx hb (show decode cX11_text 0 = .ok (.aload_n 0, 1) by decide +kernel) rfl (lv_at hl 0 rfl) ?_
  refine gw_get (ad := ad) (c0 := 11) (n := 0) (j := 0) (k := 0) (q0 := 0) (f := (2, 1, 10, some 0)) (σ := σ) hx hb hts hown hK hW (aW_get k0) (by decide) rfl (by decide) (wsm_2 (i := 102) rfl rfl) (show decode cX11_text 1 = .ok (.getfield 10, 3) by decide +kernel) ?_
  show W p l e rmT s m _ below meth c _ _ _ _ _ (F0 m 4 ls [.ref (ad 1)])
  refine gw_get (ad := ad) (c0 := 10) (n := 0) (j := 4) (k := 1) (q0 := 1) (f := (0, 0, 0, none)) (σ := σ) hx hb hts hown hK hW (aW_get k1) (by decide) rfl (by decide) (wsm_1 (i := 139) rfl rfl) (show decode cX11_text 4 = .ok (.getfield 101, 3) by decide +kernel) ?_
  show W p l e rmT s m _ below meth c _ _ _ _ _ (F0 m 7 ls [.int (σ.1 1 4)])
  refine lv_iconst (v := 4) hx hb (show decode cX11_text 7 = .ok (.iconst 4, 1) by decide +kernel) (by decide) ?_
  refine lv_icmp_lt (tgt := 13) hx hb (show decode cX11_text 8 = .ok (.if_icmp .lt 5, 3) by decide +kernel) (by decide) (fun _ => ?_) (fun z => absurd (show σ.1 1 4 < 4 by rw [h4]; exact nI_lt (b := 4) ht (by decide)) z)
  refine lv_aload_n hx hb (show decode cX11_text 13 = .ok (.aload_n 0, 1) by decide +kernel) rfl (lv_at hl 0 rfl) ?_
  refine gw_get (ad := ad) (c0 := 11) (n := 0) (j := 4) (k := 0) (q0 := 0) (f := (2, 49, 3, some 0)) (σ := σ) hx hb hts hown hK hW (aW_get k0) (by decide) rfl (by decide) (wsm_2 (i := 106) rfl rfl) (show decode cX11_text 14 = .ok (.getfield 36, 3) by decide +kernel) ?_
  show W p l e rmT s m _ below meth c _ _ _ _ _ (F0 m 17 ls [.ref (ad 49)])
  refine lv_aload_n hx hb (show decode cX11_text 17 = .ok (.aload_n 0, 1) by decide +kernel) rfl (lv_at hl 0 rfl) ?_
  refine gw_get (ad := ad) (c0 := 11) (n := 0) (j := 8) (k := 0) (q0 := 0) (f := (2, 70, 13, some 300)) (σ := σ) hx hb hts hown hK hW (aW_get k0) (by decide) rfl (by decide) (wsm_2 (i := 110) rfl rfl) (show decode cX11_text 18 = .ok (.getfield 61, 3) by decide +kernel) ?_
  show W p l e rmT s m _ below meth c _ _ _ _ _ (F0 m 21 ls [.ref (ad 70), .ref (ad 49)])
  refine lv_aload_n hx hb (show decode cX11_text 21 = .ok (.aload_n 0, 1) by decide +kernel) rfl (lv_at hl 0 rfl) ?_
  refine gw_get (ad := ad) (c0 := 11) (n := 0) (j := 10) (k := 0) (q0 := 0) (f := (0, 0, 0, none)) (σ := σ) hx hb hts hown hK hW (aW_get k0) (by decide) rfl (by decide) (wsm_2 (i := 112) rfl rfl) (show decode cX11_text 22 = .ok (.getfield 93, 3) by decide +kernel) ?_
  show W p l e rmT s m _ below meth c _ _ _ _ _ (F0 m 25 ls [.int (σ.1 0 10), .ref (ad 70), .ref (ad 49)])
  have hF := aW_free hD hS hA0
  have hts2 : ∀ w ∈ WS, w.before _ s = true := fun w hw => hts w (List.mem_cons_of_mem _ hw)
  have hrun := va_runV (p := p) (l := l) (e := e) (R := rmT) (s := s) (m := m) (args := ([.ref (ad 0)] : List Value).toArray) (below := below) (meth := meth) (c := c) (H := s.heap) (locs := []) (cells := 0) (slots := 0) (g := F0 m 25 ls [.int (σ.1 0 10), .ref (ad 70), .ref (ad 49)]) (As := [.ref (ad 70), .int (σ.1 0 10)]) (b := ad 49) (rest := []) (C := RX3) (n := 2) ⟨hx, hb, hml, hown, hts⟩ (ct_read_null l D ids ad κ σ a b σ9 (σ.1 0 10) s.heap.size hR hok k49 k50 k70 hf h1 h2 h3) ⟨callB_of 2 hts (goodIn_cw (wsm_2 (i := 179) rfl rfl)) rfl rfl rfl (hts2 (.initialized RX3) (wsm_1 (i := 7) rfl rfl)) (hts2 (.methodLink RX11 104 yX3_read) (wsm_2 (i := 176) rfl rfl)) (by decide +kernel) ⟨Nat.le_of_ble_eq_true rfl, Nat.le_of_ble_eq_true rfl⟩, hts2 (.instanceMethod yX3_read) (wsm_2 (i := 177) rfl rfl), hts2 (.selects RX3 yX3_read yX3_read) (wsm_2 (i := 178) rfl rfl)⟩ ⟨RPre.blind, va_recv (q := (RX3, TX3, 13)) hK hW (acl_cN (c := 3) (by decide)) ((aW_get k49).trans (by rw [ce_obj (by decide)])), fun U hU hWm => ⟨rfl, by rw [hU], by rw [hU]; exact hW, va_K.moved hWm.alike hK, hD.weaken (fun _ _ _ _ => trivial), hX0.call hS hF hU hWm, hC.warmC hWm⟩⟩ rfl rfl hl.1 rfl (lv_room (Nat.le_of_ble_eq_true rfl)) (show decode cX11_text 25 = .ok (.invokevirtual 104, 3) by decide +kernel) ⟨Nat.le_of_ble_eq_true rfl, Nat.le_of_ble_eq_true rfl⟩
  intro T hT X
  obtain ⟨v, st₀, t, T', Lc, h0, X', hL, e1, e2, ⟨⟨hvv, hp⟩, hz, hkf⟩, st⟩ := hrun T hT X
  cases hvv
  rw [h0] at hz hkf
  have hS1 : va_S A s.heap T'.heap ([] ++ Lc) := ⟨by rw [e1]; exact hz, fun q h1 h2 => by rw [e1, hkf q h1 (fun z => h2 (hF q z))], fun q hq => by
      rcases List.mem_append.mp hq with h | h
      · exact hS.2.2 q h
      · exact hF _ (hL q h)⟩
  have hW1 : va_P D acl (aW ids ad κ σ9) T'.heap := by rw [e1]; exact hp
  have hD1 := aW_D (σ' := σ9) hD
  have KW : W p l e rmT s m ([.ref (ad 0)] : List Value).toArray below meth c T'.heap ([] ++ Lc) (0 + 6) (0 + 720) (MQ below (fun _ st oc t => (∃ ad2 : Nat → Nat, (∀ k, (k < 72 ∨ 1000000 ≤ k) → ad2 k = ad k) ∧ oc = .returned (some (.int (-1))) ∧ va_P D acl (aW ids ad2 κ (wI σ9 0 10 0)) t.heap ∧ va_D A (aW ids ad2 κ (wI σ9 0 10 0))) ∧ va_F A st t) ([.ref (ad 0)] : List Value).toArray s 6 720 A) (F0 m 28 ls [.null]) := by
    refine lv_astore_nN (lv' := [(1, .null), (0, .ref (ad 0))]) hx hb (show decode cX11_text 28 = .ok (.astore_n 1, 1) by decide +kernel) rfl hl (by decide) rfl (fun ls hl => ?_)
    refine lv_aload_n hx hb (show decode cX11_text 29 = .ok (.aload_n 0, 1) by decide +kernel) rfl (lv_at hl 1 rfl) ?_
    refine lv_iconst (v := 0) hx hb (show decode cX11_text 30 = .ok (.iconst 0, 1) by decide +kernel) (by decide) ?_
    refine gw_put (c0 := 11) (n := 0) (j := 10) (k := 0) (σ := σ9) hx hb hts hown hK hW1 hD1 hS1 k0 (by decide) rfl (by decide) (wsm_2 (i := 112) rfl rfl) (show decode cX11_text 31 = .ok (.putfield 93, 3) by decide +kernel) (fun H2 locs2 hW2 hD2 hS2 => ?_)
    refine lv_aload_nN hx hb (show decode cX11_text 34 = .ok (.aload_n 1, 1) by decide +kernel) rfl (lv_at hl 0 rfl) ?_
    refine lv_ifnonnullN hx hb (show decode cX11_text 35 = .ok (.ifnonnull 7, 3) by decide +kernel) ?_
    refine lv_iconst (v := -1) hx hb (show decode cX11_text 38 = .ok (.iconst (-1), 1) by decide +kernel) (by decide) ?_
    refine lv_goto (tgt := 50) hx hb (show decode cX11_text 39 = .ok (.goto 11, 3) by decide +kernel) (by decide) ?_
    exact W.iret hx hb hr (fun t ht hWm => ⟨⟨ad, fun _ _ => rfl, rfl, by rw [ht]; exact hW2, hD2⟩, hS2.F ht⟩) hS2.2.2 (show decode cX11_text 50 = .ok (.ireturn, 1) by decide +kernel)
  obtain ⟨t2, a1, b1⟩ := KW T' rfl X'
  exact ⟨t2, st t2 a1, b1⟩
set_option maxHeartbeats 8000000 in
set_option maxRecDepth 100000 in
theorem ct_text_new (l : Launch) (D : va_G) (ids : Ids) (ad : Nat → Nat) (κ : Kd) (σ : Sg) (sz : Nat) (hR : Reg κ) (hok : okσ κ σ) (hKK : KOK κ) (hpre : ∀ k, k < 72 → κ[k]? = κX0[k]?) (a b σ9 : Sg) (t9 : Nat) (ht : t9 < 4) (h4 : σ.1 1 4 = nI t9) (h1 : f_X3_begin σ = some a) (h2 : f_X7_cut (σ.1 0 10) a = some b) (h3 : xloop 25 b = some σ9) (hl72 : 72 ≤ κ.length) (hlong : κ.length ≤ 900000) (hok9 : okσ κ σ9) (h49 : σ9.1 1 4 = nI t9) (hf : σ9.1 49 1 = 0) (n z : Nat) (hn : n ≤ 24) (hz : z ≤ 300) (h6 : σ9.1 49 6 = nI n) (h9 : σ9.1 49 9 = nI z) : Met l yX11_text (.code yX11_text cX11_text 2 (some .int) :: WS) rmT (va_Pc [.ref (ad 0)] (RPre D ids ad κ σ sz)) (fun _ st oc t => (∃ ad2 : Nat → Nat, (∀ k, (k < 72 ∨ 1000000 ≤ k) → ad2 k = ad k) ∧ oc = .returned (some (.int (nI t9))) ∧ va_P D acl (aW ids ad2 (κ ++ nK n z) (tSg κ.length t9 σ9)) t.heap ∧ va_D (va_A (aW ids ad κ σ) sz) (aW ids ad2 (κ ++ nK n z) (tSg κ.length t9 σ9))) ∧ va_F (va_A (aW ids ad κ σ) sz) st t) 6 720 (va_A (aW ids ad κ σ) sz) := by
  refine Met.ofW (cc := cX11_text) (maxL := 2) (ret := some .int) (by decide) rfl ?_
  intro p e s m args below meth c s₁ B hml hv
  obtain ⟨rfl, hsz, hW, hK, hD0, hX0, hC⟩ := hv
  have hx := B.exec
  have hb := B.bytes
  have hr := B.returns
  have hts := atoms_spec (ws := .code yX11_text cX11_text 2 (some .int) :: WS) B.pre
  have hown : s.vm.findClass RX11 = some m.cls := findClass_of_methodNamed B.named
  have hlocks := B.notSynchronized
  subst hsz
  have hD := hD0.self (sz := s.heap.size)
  have hA0 : ∀ q : Nat, s.heap.size ≤ q → va_A (aW ids ad κ σ) s.heap.size q := fun q h => Or.inr h
  generalize hAe : va_A (aW ids ad κ σ) s.heap.size = A at hD hX0 hA0 ⊢
  have hl := lv_entry ([.ref (ad 0)]) (n := 2) (Nat.le_of_ble_eq_true rfl)
  rw [lg_entry_eq]
  generalize (lg_sl ([.ref (ad 0)]) ++ List.replicate (2 - (lg_sl ([.ref (ad 0)])).length) Slot.unset).toArray = ls at hl ⊢
  have hl : lv_has ls 2 [(0, .ref (ad 0))] := hl
  have hS : va_S A s.heap s.heap [] := va_S.rf
  have k0 : κ[0]? = some (11, 0) := (hpre 0 (by decide)).trans rfl
  have k1 : κ[1]? = some (10, 0) := (hpre 1 (by decide)).trans rfl
  have k49 : κ[49]? = some (3, 0) := (hpre 49 (by decide)).trans rfl
  have k50 : κ[50]? = some (7, 0) := (hpre 50 (by decide)).trans rfl
  have k54 : κ[54]? = some (13, 96) := (hpre 54 (by decide)).trans rfl
  have k55 : κ[55]? = some (13, 300) := (hpre 55 (by decide)).trans rfl
  have k56 : κ[56]? = some (13, 300) := (hpre 56 (by decide)).trans rfl
  have k57 : κ[57]? = some (13, 3) := (hpre 57 (by decide)).trans rfl
  have k58 : κ[58]? = some (13, 3) := (hpre 58 (by decide)).trans rfl
  have k70 : κ[70]? = some (13, 300) := (hpre 70 (by decide)).trans rfl
  refine W.widen (k := 0) (n := 0) (Nat.le_refl _) (Nat.le_refl _) ?_
  refine lv_aload_n hx hb (show decode cX11_text 0 = .ok (.aload_n 0, 1) by decide +kernel) rfl (lv_at hl 0 rfl) ?_
  refine gw_get (ad := ad) (c0 := 11) (n := 0) (j := 0) (k := 0) (q0 := 0) (f := (2, 1, 10, some 0)) (σ := σ) hx hb hts hown hK hW (aW_get k0) (by decide) rfl (by decide) (wsm_2 (i := 102) rfl rfl) (show decode cX11_text 1 = .ok (.getfield 10, 3) by decide +kernel) ?_
  show W p l e rmT s m _ below meth c _ _ _ _ _ (F0 m 4 ls [.ref (ad 1)])
  refine gw_get (ad := ad) (c0 := 10) (n := 0) (j := 4) (k := 1) (q0 := 1) (f := (0, 0, 0, none)) (σ := σ) hx hb hts hown hK hW (aW_get k1) (by decide) rfl (by decide) (wsm_1 (i := 139) rfl rfl) (show decode cX11_text 4 = .ok (.getfield 101, 3) by decide +kernel) ?_
  show W p l e rmT s m _ below meth c _ _ _ _ _ (F0 m 7 ls [.int (σ.1 1 4)])
  refine lv_iconst (v := 4) hx hb (show decode cX11_text 7 = .ok (.iconst 4, 1) by decide +kernel) (by decide) ?_
  refine lv_icmp_lt (tgt := 13) hx hb (show decode cX11_text 8 = .ok (.if_icmp .lt 5, 3) by decide +kernel) (by decide) (fun _ => ?_) (fun z => absurd (show σ.1 1 4 < 4 by rw [h4]; exact nI_lt (b := 4) ht (by decide)) z)
  refine lv_aload_n hx hb (show decode cX11_text 13 = .ok (.aload_n 0, 1) by decide +kernel) rfl (lv_at hl 0 rfl) ?_
  refine gw_get (ad := ad) (c0 := 11) (n := 0) (j := 4) (k := 0) (q0 := 0) (f := (2, 49, 3, some 0)) (σ := σ) hx hb hts hown hK hW (aW_get k0) (by decide) rfl (by decide) (wsm_2 (i := 106) rfl rfl) (show decode cX11_text 14 = .ok (.getfield 36, 3) by decide +kernel) ?_
  show W p l e rmT s m _ below meth c _ _ _ _ _ (F0 m 17 ls [.ref (ad 49)])
  refine lv_aload_n hx hb (show decode cX11_text 17 = .ok (.aload_n 0, 1) by decide +kernel) rfl (lv_at hl 0 rfl) ?_
  refine gw_get (ad := ad) (c0 := 11) (n := 0) (j := 8) (k := 0) (q0 := 0) (f := (2, 70, 13, some 300)) (σ := σ) hx hb hts hown hK hW (aW_get k0) (by decide) rfl (by decide) (wsm_2 (i := 110) rfl rfl) (show decode cX11_text 18 = .ok (.getfield 61, 3) by decide +kernel) ?_
  show W p l e rmT s m _ below meth c _ _ _ _ _ (F0 m 21 ls [.ref (ad 70), .ref (ad 49)])
  refine lv_aload_n hx hb (show decode cX11_text 21 = .ok (.aload_n 0, 1) by decide +kernel) rfl (lv_at hl 0 rfl) ?_
  refine gw_get (ad := ad) (c0 := 11) (n := 0) (j := 10) (k := 0) (q0 := 0) (f := (0, 0, 0, none)) (σ := σ) hx hb hts hown hK hW (aW_get k0) (by decide) rfl (by decide) (wsm_2 (i := 112) rfl rfl) (show decode cX11_text 22 = .ok (.getfield 93, 3) by decide +kernel) ?_
  show W p l e rmT s m _ below meth c _ _ _ _ _ (F0 m 25 ls [.int (σ.1 0 10), .ref (ad 70), .ref (ad 49)])
  have hF := aW_free hD hS hA0
  have hts2 : ∀ w ∈ WS, w.before _ s = true := fun w hw => hts w (List.mem_cons_of_mem _ hw)
  have hrun := va_runV (p := p) (l := l) (e := e) (R := rmT) (s := s) (m := m) (args := ([.ref (ad 0)] : List Value).toArray) (below := below) (meth := meth) (c := c) (H := s.heap) (locs := []) (cells := 0) (slots := 0) (g := F0 m 25 ls [.int (σ.1 0 10), .ref (ad 70), .ref (ad 49)]) (As := [.ref (ad 70), .int (σ.1 0 10)]) (b := ad 49) (rest := []) (C := RX3) (n := 2) ⟨hx, hb, hml, hown, hts⟩ (ct_read_new l D ids ad κ σ a b σ9 (σ.1 0 10) s.heap.size hR hok k49 k50 k70 hf n z hn hz h6 h9 k54 k55 k56 k57 k58 h1 h2 h3) ⟨callB_of 2 hts (goodIn_cw (wsm_2 (i := 179) rfl rfl)) rfl rfl rfl (hts2 (.initialized RX3) (wsm_1 (i := 7) rfl rfl)) (hts2 (.methodLink RX11 104 yX3_read) (wsm_2 (i := 176) rfl rfl)) (by decide +kernel) ⟨Nat.le_of_ble_eq_true rfl, Nat.le_of_ble_eq_true rfl⟩, hts2 (.instanceMethod yX3_read) (wsm_2 (i := 177) rfl rfl), hts2 (.selects RX3 yX3_read yX3_read) (wsm_2 (i := 178) rfl rfl)⟩ ⟨RPre.blind, va_recv (q := (RX3, TX3, 13)) hK hW (acl_cN (c := 3) (by decide)) ((aW_get k49).trans (by rw [ce_obj (by decide)])), fun U hU hWm => ⟨rfl, by rw [hU], by rw [hU]; exact hW, va_K.moved hWm.alike hK, hD.weaken (fun _ _ _ _ => trivial), hX0.call hS hF hU hWm, hC.warmC hWm⟩⟩ rfl rfl hl.1 rfl (lv_room (Nat.le_of_ble_eq_true rfl)) (show decode cX11_text 25 = .ok (.invokevirtual 104, 3) by decide +kernel) ⟨Nat.le_of_ble_eq_true rfl, Nat.le_of_ble_eq_true rfl⟩
  intro T hT X
  obtain ⟨v, st₀, t, T', Lc, h0, X', hL, e1, e2, ⟨⟨r, q1, q2, q3, q4, q5, hvv, hp, hdd⟩, hz1, hkf⟩, st⟩ := hrun T hT X
  cases hvv
  rw [h0] at hz1 hkf
  have hS1 : va_S A s.heap T'.heap ([] ++ Lc) := ⟨by rw [e1]; exact hz1, fun q h1 h2 => by rw [e1, hkf q h1 (fun z => h2 (hF q z))], fun q hq => by
      rcases List.mem_append.mp hq with h | h
      · exact hS.2.2 q h
      · exact hF _ (hL q h)⟩
  obtain ⟨ad2, had⟩ : ∃ ad2, ad2 = ad6 ad κ.length r q1 q2 q3 q4 q5 := ⟨_, rfl⟩
  have hold : ∀ k, (k < κ.length ∨ 1000000 ≤ k) → ad2 k = ad k := fun k hk => by
    rw [had]
    exact ad6_lt (by omega)
  have hW1 : va_P D acl (aW ids ad2 (κ ++ nK n z) (eSg κ.length σ9)) T'.heap := by
    rw [e1, had, ext_world hR hok9 hKK]
    exact hp
  have hD1 : va_D A (aW ids ad2 (κ ++ nK n z) (eSg κ.length σ9)) := by
    rw [had, ext_world hR hok9 hKK, ← hAe]
    exact hdd
  have hR2 : Reg (κ ++ nK n z) := nK_Reg hR
  have k0' : (κ ++ nK n z)[0]? = some (11, 0) := by rw [nK_old (by omega)]; exact k0
  have k1' : (κ ++ nK n z)[1]? = some (10, 0) := by rw [nK_old (by omega)]; exact k1
  have a0 : ad 0 = ad2 0 := (hold 0 (Or.inl (by omega))).symm
  have hX2 : XK ad2 A s s.heap := hX0.ad (fun k hk => hold k (Or.inr hk))
  have KW : W p l e rmT s m ([.ref (ad 0)] : List Value).toArray below meth c T'.heap ([] ++ Lc) (0 + 6) (0 + 720) (MQ below (fun _ st oc t => (∃ ad2 : Nat → Nat, (∀ k, (k < 72 ∨ 1000000 ≤ k) → ad2 k = ad k) ∧ oc = .returned (some (.int (nI t9))) ∧ va_P D acl (aW ids ad2 (κ ++ nK n z) (tSg κ.length t9 σ9)) t.heap ∧ va_D A (aW ids ad2 (κ ++ nK n z) (tSg κ.length t9 σ9))) ∧ va_F A st t) ([.ref (ad 0)] : List Value).toArray s 6 720 A) (F0 m 28 ls [.ref r]) := by
    rw [a0] at hl
    refine lv_astore_n (lv' := [(1, .ref r), (0, .ref (ad2 0))]) hx hb (show decode cX11_text 28 = .ok (.astore_n 1, 1) by decide +kernel) rfl hl (by decide) rfl (fun ls hl => ?_)
    refine lv_aload_n hx hb (show decode cX11_text 29 = .ok (.aload_n 0, 1) by decide +kernel) rfl (lv_at hl 1 rfl) ?_
    refine lv_iconst (v := 0) hx hb (show decode cX11_text 30 = .ok (.iconst 0, 1) by decide +kernel) (by decide) ?_
    refine gw_put (c0 := 11) (n := 0) (j := 10) (k := 0) (σ := eSg κ.length σ9) hx hb hts hown hK hW1 hD1 hS1 k0' (by decide) rfl (by decide) (wsm_2 (i := 112) rfl rfl) (show decode cX11_text 31 = .ok (.putfield 93, 3) by decide +kernel) (fun H2 locs2 hW2 hD2 hS2 => ?_)
    refine lv_aload_n hx hb (show decode cX11_text 34 = .ok (.aload_n 1, 1) by decide +kernel) rfl (lv_at hl 0 rfl) ?_
    refine lv_ifnonnull (tgt := 42) hx hb (show decode cX11_text 35 = .ok (.ifnonnull 7, 3) by decide +kernel) (by decide) ?_
    refine lv_aload_n hx hb (show decode cX11_text 42 = .ok (.aload_n 0, 1) by decide +kernel) rfl (lv_at hl 1 rfl) ?_
    refine gw_get (ad := ad2) (c0 := 11) (n := 0) (j := 0) (k := 0) (q0 := 0) (f := (2, 1, 10, some 0)) (σ := wI (eSg κ.length σ9) 0 10 0) hx hb hts hown hK hW2 (aW_get k0') (by decide) rfl (by decide) (wsm_2 (i := 102) rfl rfl) (show decode cX11_text 43 = .ok (.getfield 10, 3) by decide +kernel) ?_
    show W p l e rmT s m _ below meth c _ _ _ _ _ (F0 m 46 ls [.ref (ad2 1)])
    refine lv_aload_n hx hb (show decode cX11_text 46 = .ok (.aload_n 1, 1) by decide +kernel) rfl (lv_at hl 0 rfl) ?_
    have ar : r = ad2 κ.length := by rw [had]; exact (if_pos rfl).symm
    rw [ar]
    have ok2 : okσ (κ ++ nK n z) (wI (eSg κ.length σ9) 0 10 0) := nK_ok hok9 (fun a ha j t h => Or.inl h)
    refine gw_call (κ := κ ++ nK n z) (ad := ad2) (P' := pX10_shelve) (d' := 1) (c0 := 10) (n := 0) (k := 1) (σ := wI (eSg κ.length σ9) 0 10 0) [aR 6 0 κ.length] [] hx hb hml hl.1 hown hts ⟨Nat.le_refl _, Nat.le_refl _⟩ hK hR2 ok2 (List.forall_mem_cons.mpr ⟨okv_of k1' (by decide), List.forall_mem_cons.mpr ⟨okv_of (nK_new 0) (by decide), fun _ hn => absurd hn List.not_mem_nil⟩⟩) hW2 hD2 hS2 hA0 hX2 okp_X10_shelve (show decode cX11_text 47 = .ok (.invokevirtual 108, 3) by decide +kernel) (wsm_3 (i := 217) rfl rfl) vok_X10_shelve (by decide) rfl nar_X10_shelve ⟨rfl, rfl⟩ (Nat.le_of_ble_eq_true rfl) (ok_X10_shelve (x_shelve hl72 ht h49)) (fun hok3 _ H3 locs3 hW3 hS3 => ?_)
    have hD3 := aW_D (σ' := tSg κ.length t9 σ9) hD2
    exact W.iret hx hb hr (fun t ht hWm => ⟨⟨ad2, fun k hk => hold k (by omega), rfl, by rw [ht]; exact hW3, hD3⟩, hS3.F ht⟩) hS3.2.2 (show decode cX11_text 50 = .ok (.ireturn, 1) by decide +kernel)
  obtain ⟨t2, a1, b1⟩ := KW T' rfl X'
  exact ⟨t2, st t2 a1, b1⟩
