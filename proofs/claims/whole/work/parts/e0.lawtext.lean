/-! the law: case 4, text -/
section LTX
variable {p : Program} {l : Launch} {e : Env} {s : State} {m : MethodId} {args : Array Value} {below : List Frame} {meth : Method} {c : Code} {D : va_G} {ids : Ids} {A : Nat → Prop} {H : Heap} {locs : List Loc} {cells slots : Nat} {Q : State → Prop} {ls : Array Slot}
theorem lw_textX {κ κ' : Kd} {ad : Nat → Nat} {σ σ' : Sg} {r : Int32} {W2 : va_W} {rest : List Value} {nL : Nat} {cc : ByteArray} {own : String} {pc idx : Nat}
    (hx : p.tables.exec = Jvm.exec) (hb : c.code = cc) (hml : c.maxLocals = nL) (hls : ls.size = nL) (hown : s.vm.findClass own = some m.cls) (hts : ∀ w ∈ lw_tbl, w.before args s = true) (hcs : cells + 6 ≤ room_1.cells ∧ slots + 720 ≤ room_1.slots)
    (hK : va_K D acl (atys ids) s) (k0 : κ[0]? = some (11, 0)) (hW : va_P D acl (aW ids ad κ σ) H) (hW2 : va_P D acl W2 H) (hD : va_D A (aW ids ad κ σ)) (hap : apart2 (aW ids ad κ σ) W2) (hS : va_S A s.heap H locs) (hA : ∀ q, s.heap.size ≤ q → A q) (hX : XK ad A s s.heap) (hC : CLO s)
    (hd : decode cc pc = .ok (.invokevirtual idx, 3)) (hl : Cond.methodLink own idx yX11_text ∈ lw_tbl) (h8 : (rest.map fun v => v.category).sum ≤ 8)
    (hM : ∀ sz, Met l yX11_text (.code yX11_text cX11_text 2 (some .int) :: WS) rmT (va_Pc [.ref (ad 0)] (RPre D ids ad κ σ sz)) (fun _ st oc t => (∃ ad2 : Nat → Nat, (∀ k, (k < 72 ∨ 1000000 ≤ k) → ad2 k = ad k) ∧ oc = .returned (some (.int r)) ∧ va_P D acl (aW ids ad2 κ' σ') t.heap ∧ va_D (va_A (aW ids ad κ σ) sz) (aW ids ad2 κ' σ')) ∧ va_F (va_A (aW ids ad κ σ) sz) st t) 6 720 (va_A (aW ids ad κ σ) sz))
    (kk : ∀ (ad2 : Nat → Nat) (H1 : Heap) (locs1 : List Loc), (∀ k, (k < 72 ∨ 1000000 ≤ k) → ad2 k = ad k) → va_P D acl (aW ids ad2 κ' σ') H1 → va_P D acl W2 H1 → va_D A (aW ids ad2 κ' σ') → apart2 (aW ids ad2 κ' σ') W2 → va_S A s.heap H1 locs1 → W p l e room_1 s m args below meth c H1 locs1 (cells + 6) (slots + 720) Q (F0 m (pc + 3) ls (.int r :: rest))) :
    W p l e room_1 s m args below meth c H locs cells slots Q (F0 m pc ls (.ref (ad 0) :: rest)) := by
  have hF := aW_free hD hS hA
  have hts2 : ∀ w ∈ WS, w.before args s = true := fun w hw => hts w (List.mem_filter.mp hw).1
  have hgi : GoodIn lw_tbl (.code yX11_text cX11_text 2 (some .int) :: WS) := by
    intro w hw
    have hw2 : w ∈ WS := by
      rcases List.mem_cons.mp hw with rfl | hw
      · exact (wsm_2 (i := 175) rfl rfl)
      · exact hw
    exact ⟨(List.mem_filter.mp hw2).1, good_of_word (ws_good _ hw2)⟩
  have hrun := va_runV (p := p) (l := l) (e := e) (R := room_1) (s := s) (m := m) (args := args) (below := below) (meth := meth) (c := c) (H := H) (locs := locs) (cells := cells) (slots := slots) (g := F0 m pc ls (.ref (ad 0) :: rest)) (As := []) (b := ad 0) (rest := rest) (C := RX11) (n := 0)
    ⟨hx, hb, hml, hown, hts⟩ (hM H.size)
    ⟨callB_of 0 hts hgi rfl rfl rfl (hts2 (.initialized RX11) (wsm_1 (i := 1) rfl rfl)) (hts _ hl) (by decide +kernel) ⟨Nat.le_of_ble_eq_true rfl, Nat.le_of_ble_eq_true rfl⟩, hts2 (.instanceMethod yX11_text) (wsm_2 (i := 173) rfl rfl), hts2 (.selects RX11 yX11_text yX11_text) (wsm_2 (i := 174) rfl rfl)⟩
    ⟨RPre.blind, va_recv (q := (RX11, TX11, 11)) hK hW (acl_cN (c := 11) (by decide)) ((aW_get k0).trans (by rw [ce_obj (by decide)])), fun U hU hWm => ⟨rfl, by rw [hU], by rw [hU]; exact hW, va_K.moved hWm.alike hK, hD.weaken (fun _ _ _ _ => trivial), hX.call hS hF hU hWm, hC.warmC hWm⟩⟩
    rfl rfl hls rfl (lv_room h8) hd hcs
  intro T hT X
  obtain ⟨v, st₀, t, T', Lc, h0, X', hL, e1, e2, ⟨⟨ad2, g1, hvv, hp, hdd⟩, hz, hkf⟩, st⟩ := hrun T hT X
  cases hvv
  rw [h0] at hz hkf
  have hkeep : ∀ q : Nat, q < H.size → ¬ va_A (aW ids ad κ σ) H.size q → T'.heap[q]? = H[q]? := fun q h1 h2 => by rw [e1]; exact hkf q h1 h2
  have hno : ∀ (i : Nat) (x : Nat × va_E), W2[i]? = some x → ¬ va_A (aW ids ad κ σ) H.size x.1 := fun i x hx2 hq => by
    rcases hq with ⟨j, ee, hj⟩ | hq
    · exact hap j i (x.1, ee) x hj hx2 rfl
    · have := (hW2 i x hx2).lt
      omega
  have hW2' : va_P D acl W2 T'.heap := hW2.kept (fun i x hx2 => hkeep x.1 ((hW2 i x hx2).lt) (hno i x hx2))
  have hD' : va_D A (aW ids ad2 κ' σ') := hdd.weaken (fun _ q _ h => hF q.1 h)
  have hap' : apart2 (aW ids ad2 κ' σ') W2 := fun i j x y hi hj h => hno j y hj (by rw [← h]; exact hdd.2 i x hi)
  obtain ⟨t2, a1, b1⟩ := kk ad2 T'.heap (locs ++ Lc) g1 (by rw [e1]; exact hp) hW2' hD' hap'
    ⟨Nat.le_trans hS.1 (by rw [e1]; exact hz), fun q h1 h2 => by rw [hkeep q (Nat.lt_of_lt_of_le h1 hS.1) (fun z => h2 (hF q z))]; exact hS.2.1 q h1 h2, fun q hq => by
      rcases List.mem_append.mp hq with h | h
      · exact hS.2.2 q h
      · exact hF _ (hL q h)⟩ T' rfl X'
  exact ⟨t2, st t2 a1, b1⟩
theorem lw_textM {b L : Nat} {xs : Nat → Int32} (C : LC p s m args c D ids A b L xs) {aX aM : Nat → Nat} {κ : Kd} {σX σM σM1 : Sg} (B : LW s D ids A aX aM κ σX σM H locs) (hcs : cells ≤ room_1.cells ∧ slots ≤ room_1.slots) {vX : Value} {i : Int32} (hl : lv_has ls 4 [(0, .ref b), (1, vX), (2, .ref (aM 0)), (3, .int i)]) {r : Int32} (fM : f_X12_text σM = some (r, σM1)) (kk : ∀ (H1 : Heap) (locs1 : List Loc), LW s D ids A aX aM κ σX σM1 H1 locs1 → W p l e room_1 s m args below meth c H1 locs1 cells slots Q (F0 m 1441 ls [])) : W p l e room_1 s m args below meth c H locs cells slots Q (F0 m 394 ls [.int r]) := by
  obtain ⟨hx, hb, hml, hown, hts, hK, hA, hX, hbl, hbA⟩ := C
  obtain ⟨wX, wM, dX, dM, ap, hS, xX, xM, rX, oX, oM, k0⟩ := B
  refine lv_aload_n hx hb (show decode code 394 = .ok (.aload_n 2, 1) by decide +kernel) rfl (lv_at hl 2 rfl) ?_
  refine lw_call (κ := κM) (ad := aM) (W2 := (aW ids aX κ σX)) (P' := pX12_text) (d' := 12) (c0 := 12) (n := 0) (k := 0) [] [.int r] hx hb hml hl.1 hown hts hcs hK regM oM (List.forall_mem_cons.mpr ⟨okv_of rfl (by decide), (fun _ hn => absurd hn List.not_mem_nil)⟩) wM wX dM ap.symm hS hA xM okp_X12_text (show decode code 395 = .ok (.invokevirtual 37, 3) by decide +kernel) (List.mem_filter.mp (wsm_6 (i := 169) rfl rfl)).1 vok_X12_text (by decide) rfl nar_X12_text ⟨rfl, rfl⟩ (Nat.le_of_ble_eq_true rfl) (ok_X12_text fM) (fun o1 _ H1 locs1 v1 v2 hS => ?_)
  have dM1 := aW_D (σ' := σM1) dM
  have ap1 := (apart2.left (σ' := σM1) ap.symm).symm
  refine lv_icmp_eq (tgt := 1441) hx hb (show decode code 398 = .ok (.if_icmp .eq 1043, 3) by decide +kernel) (by decide) (fun _ => ?_) (fun z => absurd rfl z)
  exact kk _ _ ⟨v2, v1, dX, dM1, ap1, hS, xX, xM, rX, oX, o1, k0⟩
theorem okσ_fr {κ : Kd} {σ σ' : Sg} (h : okσ κ σ) (e : σ'.2.2 = σ.2.2) : okσ κ σ' := fun k n j t h1 h2 => h k n j t h1 (by rw [← e]; exact h2)
theorem T_len {κ : Kd} {T : TD} {σX σM : Sg} (J : Inv κ T σX σM) (hR : Reg κ) (hok : okσ κ σX) (k13 : κ[13]? = some (16, 4)) : ∀ t, t < T.1 → T.2.1 t + 5 < κ.length := by
  obtain ⟨A, B, I⟩ := J
  intro t ht
  obtain ⟨t0, t1, t2⟩ := I.2.2.2.2.2.2.2
  obtain ⟨_, _, ⟨_, g4, _, _⟩, _⟩ := t2 t (by omega)
  have h6 := hok 13 4 t _ k13 g4
  obtain ⟨n', h7, _⟩ := hR _ 6 0 h6 (by decide) 4 5 13 none rfl
  exact (List.getElem?_eq_some_iff.mp h7).1
set_option maxHeartbeats 4000000 in
theorem lwc_4 {b L : Nat} {xs : Nat → Int32} (C : LC p s m args c D ids A b L xs) (hC : CLO s) {aX aM : Nat → Nat} {κ : Kd} {T : TD} {σX σM : Sg} (B : LW s D ids A aX aM κ σX σM H locs) (J : Inv κ T σX σM) (hKK : KOK κ) (hpre : ∀ k, k < 72 → κ[k]? = κX0[k]?) (h72 : 72 ≤ κ.length) (hlong : κ.length ≤ 900000) (hcs : cells + 6 ≤ room_1.cells ∧ slots + 720 ≤ room_1.slots) {i : Int32} (hl : lv_has ls 4 [(0, .ref b), (1, .ref (aX 0)), (2, .ref (aM 0)), (3, .int i)])
    (kk : ∀ (κ1 : Kd) (T1 : TD) (aX1 : Nat → Nat) (σX1 σM1 : Sg) (H1 : Heap) (locs1 : List Loc), LW s D ids A aX1 aM κ1 σX1 σM1 H1 locs1 → Inv κ1 T1 σX1 σM1 → KOK κ1 → (∀ k, k < 72 → κ1[k]? = κX0[k]?) → 72 ≤ κ1.length → κ1.length ≤ κ.length + 6 → aX1 0 = aX 0 → W p l e room_1 s m args below meth c H1 locs1 (cells + 6) (slots + 720) Q (F0 m 1441 ls [])) : W p l e room_1 s m args below meth c H locs cells slots Q (F0 m 390 ls []) := by
  have C0 := C
  obtain ⟨hx, hb, hml, hown, hts, hK, hA, hX, hbl, hbA⟩ := C
  obtain ⟨wX, wM, dX, dM, ap, hS, xX, xM, rX, oX, oM, k0⟩ := B
  have hlink : Cond.methodLink RL 33 yX11_text ∈ lw_tbl := (List.mem_filter.mp (wsm_2 (i := 172) rfl rfl)).1
  have DD := (show decode code 391 = .ok (.invokevirtual 33, 3) by decide +kernel)
  have hTl := T_len J rX oX ((hpre 13 (by decide)).trans rfl)
  refine lv_aload_n hx hb (show decode code 390 = .ok (.aload_n 1, 1) by decide +kernel) rfl (lv_at hl 1 rfl) ?_
  have fin : ∀ (κ1 : Kd) (T1 : TD) (σX1 σM1 : Sg) (r : Int32), Reg κ1 → okσ κ1 σX1 → KOK κ1 → (∀ k, k < 72 → κ1[k]? = κX0[k]?) → 72 ≤ κ1.length → κ1.length ≤ κ.length + 6 → f_X12_text σM = some (r, σM1) → Inv κ1 T1 σX1 σM1 → ∀ (ad2 : Nat → Nat) (H1 : Heap) (locs1 : List Loc), (∀ k, (k < 72 ∨ 1000000 ≤ k) → ad2 k = aX k) → va_P D acl (aW ids ad2 κ1 σX1) H1 → va_P D acl (aW ids aM κM σM) H1 → va_D A (aW ids ad2 κ1 σX1) → apart2 (aW ids ad2 κ1 σX1) (aW ids aM κM σM) → va_S A s.heap H1 locs1 → W p l e room_1 s m args below meth c H1 locs1 (cells + 6) (slots + 720) Q (F0 m (391 + 3) ls (.int r :: [])) := by
    intro κ1 T1 σX1 σM1 r h1 h2 h3 h4 h5 h6 h7 h8 ad2 H1 locs1 g1 g2 g3 g4 g5 g6
    exact lw_textM C0 ⟨g2, g3, g4, dM, g5, g6, xX.ad (fun k hk => g1 k (Or.inr hk)), xM, h1, h2, oM, (h4 0 (by decide)).trans rfl⟩ hcs hl h7 (fun H2 locs2 B2 => kk κ1 T1 ad2 σX1 σM1 H2 locs2 B2 h8 h3 h4 h5 h6 (g1 0 (Or.inl (by decide))))
  rcases g_text J h72 hTl with ⟨_, x4, fM⟩ | ⟨t4, p0, a0, b0, σ9, hp, x10, x14, e1, e2, e3, fa, fb, f9, R⟩
  · refine lw_textX (W2 := aW ids aM κM σM) hx hb hml hl.1 hown hts hcs hK k0 wX wM dX ap hS hA xX hC DD hlink (Nat.le_of_ble_eq_true rfl) (fun sz => ct_text_full l D ids aX κ σX sz rX oX hKK hpre x4) ?_
    exact fin κ T σX σM (-1) rX oX hKK hpre h72 (by omega) fM J
  · have o9 := okσ_fr oX f9.2
    rw [← x10] at e2
    rcases R with ⟨f, σMF, f0, f1, f2, fM, J1⟩ | ⟨f2, n, z, hn, hz, h6, h9, σMF, T1, q1, q2, fM, q3⟩
    · have nf : ¬ σ9.1 49 1 = 0 := by
        rw [f2]
        exact fun q => f0 ((nI_eq (b := 0) (by omega) (by decide)).mp q)
      refine lw_textX (W2 := aW ids aM κM σM) hx hb hml hl.1 hown hts hcs hK k0 wX wM dX ap hS hA xX hC DD hlink (Nat.le_of_ble_eq_true rfl) (fun sz => ct_text_no l D ids aX κ σX sz rX oX hKK hpre a0 b0 σ9 T.1 t4 x14 e1 e2 e3 nf) ?_
      exact fin κ T (wI σ9 0 10 0) σMF (-1) rX o9 hKK hpre h72 (by omega) fM J1
    · have x14' : σ9.1 1 4 = nI T.1 := by
        rw [f9.1 _ _ (by omega)]
        exact x14
      refine lw_textX (W2 := aW ids aM κM σM) hx hb hml hl.1 hown hts hcs hK k0 wX wM dX ap hS hA xX hC DD hlink (Nat.le_of_ble_eq_true rfl) (fun sz => ct_text_new l D ids aX κ σX sz rX oX hKK hpre a0 b0 σ9 T.1 t4 x14 e1 e2 e3 h72 hlong o9 x14' f2 n z hn hz h6 h9) ?_
      refine fin (κ ++ nK n z) T1 (tSg κ.length T.1 σ9) σMF (nI T.1) (nK_Reg rX) (nK_ok o9 (fun a ha j t h => ?_)) (nK_KOK hKK) (fun k hk => by rw [nK_old (by omega)]; exact hpre k hk) (by rw [nK_len]; omega) (by rw [nK_len]; omega) fM (q3 _ (NF_t h72))
      have h2 : (if a = 13 ∧ j = T.1 then some κ.length else σ9.2.2 a j) = some t := h
      by_cases y : a = 13 ∧ j = T.1
      · rw [if_pos y] at h2
        exact Or.inr (Option.some.inj h2).symm
      · rw [if_neg y] at h2
        exact Or.inl h2
end LTX
