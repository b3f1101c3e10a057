/-! the law: cases 36 on -/
set_option maxRecDepth 100000 in
set_option maxHeartbeats 4000000 in
theorem lwc_36 {p : Program} {l : Launch} {e : Env} {s : State} {m : MethodId} {args : Array Value} {below : List Frame} {meth : Method} {c : Code} {D : va_G} {ids : Ids} {A : Nat → Prop} {b L : Nat} {xs : Nat → Int32} (C : LC p s m args c D ids A b L xs) {aX aM : Nat → Nat} {κ : Kd} {σX σM : Sg} {H : Heap} {locs : List Loc} (B : LW s D ids A aX aM κ σX σM H locs) {cells slots : Nat} (hcs : cells ≤ room_1.cells ∧ slots ≤ room_1.slots) {ls : Array Slot} {i : Int32} (hl : lv_has ls 4 [(0, .ref b), (1, .ref (aX 0)), (2, .ref (aM 0)), (3, .int i)])  {Q : State → Prop} {r : Int32} {σX1 σM1 : Sg} (fX : f_X11_whose κ  σX = some (r, σX1)) (fM : f_X12_whose  σM = some (r, σM1)) (kk : ∀ (H1 : Heap) (locs1 : List Loc), LW s D ids A aX aM κ σX1 σM1 H1 locs1 → W p l e room_1 s m args below meth c H1 locs1 cells slots Q (F0 m 1441 ls [])) : W p l e room_1 s m args below meth c H locs cells slots Q (F0 m 1294 ls []) := by
  obtain ⟨hx, hb, hml, hown, hts, hK, hA, hX, hbl, hbA⟩ := C
  obtain ⟨wX, wM, dX, dM, ap, hS, xX, xM, rX, oX, oM, k0⟩ := B
  refine lv_aload_n hx hb (show decode code 1294 = .ok (.aload_n 1, 1) by decide +kernel) rfl (lv_at hl 1 rfl) ?_
  refine lw_call (κ := κ) (ad := aX) (W2 := (aW ids aM κM σM)) (P' := pX11_whose) (d' := 7) (c0 := 11) (n := 0) (k := 0) [] [] hx hb hml hl.1 hown hts hcs hK rX oX (List.forall_mem_cons.mpr ⟨okv_of k0 (by decide), (fun _ hn => absurd hn List.not_mem_nil)⟩) wX wM dX ap hS hA xX okp_X11_whose (show decode code 1295 = .ok (.invokevirtual 167, 3) by decide +kernel) (List.mem_filter.mp ml_RL_167).1 vok_X11_whose (by decide) rfl nar_X11_whose ⟨rfl, rfl⟩ (Nat.le_of_ble_eq_true rfl) (ok_X11_whose fX) (fun o1 _ H1 locs1 v1 v2 hS => ?_)
  clear wX wM oX
  have wX := v1
  have wM := v2
  have oX := o1
  have dX := aW_D (σ' := σX1) dX
  have ap := apart2.left (σ' := σX1) ap
  refine lv_aload_n hx hb (show decode code 1298 = .ok (.aload_n 2, 1) by decide +kernel) rfl (lv_at hl 2 rfl) ?_
  refine lw_call (κ := κM) (ad := aM) (W2 := (aW ids aX κ σX1)) (P' := pX12_whose) (d' := 6) (c0 := 12) (n := 0) (k := 0) [] [.int r] hx hb hml hl.1 hown hts hcs hK regM oM (List.forall_mem_cons.mpr ⟨okv_of rfl (by decide), (fun _ hn => absurd hn List.not_mem_nil)⟩) wM wX dM ap.symm hS hA xM okp_X12_whose (show decode code 1299 = .ok (.invokevirtual 170, 3) by decide +kernel) (List.mem_filter.mp ml_RL_170).1 vok_X12_whose (by decide) rfl nar_X12_whose ⟨rfl, rfl⟩ (Nat.le_of_ble_eq_true rfl) (ok_X12_whose fM) (fun o1 _ H1 locs1 v1 v2 hS => ?_)
  clear wX wM oM
  have wM := v1
  have wX := v2
  have oM := o1
  have dM := aW_D (σ' := σM1) dM
  have ap := (apart2.left (σ' := σM1) ap.symm).symm
  refine lv_icmp_eq (tgt := 1441) hx hb (show decode code 1302 = .ok (.if_icmp .eq 139, 3) by decide +kernel) (by decide) (fun _ => ?_) (fun z => absurd rfl z)
  exact kk _ _ ⟨wX, wM, dX, dM, ap, hS, xX, xM, rX, oX, oM, k0⟩
set_option maxRecDepth 100000 in
set_option maxHeartbeats 4000000 in
theorem lwc_37 {p : Program} {l : Launch} {e : Env} {s : State} {m : MethodId} {args : Array Value} {below : List Frame} {meth : Method} {c : Code} {D : va_G} {ids : Ids} {A : Nat → Prop} {b L : Nat} {xs : Nat → Int32} (C : LC p s m args c D ids A b L xs) {aX aM : Nat → Nat} {κ : Kd} {σX σM : Sg} {H : Heap} {locs : List Loc} (B : LW s D ids A aX aM κ σX σM H locs) {cells slots : Nat} (hcs : cells ≤ room_1.cells ∧ slots ≤ room_1.slots) {ls : Array Slot} {i : Int32} (hl : lv_has ls 4 [(0, .ref b), (1, .ref (aX 0)), (2, .ref (aM 0)), (3, .int i)]) (h1 : vp_in (i + 1) L) (h2 : vp_in (i + 2) L) {Q : State → Prop} {r : Int32} {σX1 σM1 : Sg} (fX : f_X11_befell (xs (ix (i + 1))) (xs (ix (i + 2))) σX = some (r, σX1)) (fM : f_X12_befell (xs (ix (i + 1))) (xs (ix (i + 2))) σM = some (r, σM1)) (kk : ∀ (H1 : Heap) (locs1 : List Loc), LW s D ids A aX aM κ σX1 σM1 H1 locs1 → W p l e room_1 s m args below meth c H1 locs1 cells slots Q (F0 m 1441 ls [])) : W p l e room_1 s m args below meth c H locs cells slots Q (F0 m 1307 ls []) := by
  obtain ⟨hx, hb, hml, hown, hts, hK, hA, hX, hbl, hbA⟩ := C
  obtain ⟨wX, wM, dX, dM, ap, hS, xX, xM, rX, oX, oM, k0⟩ := B
  unfold ix at fX fM
  refine lv_aload_n hx hb (show decode code 1307 = .ok (.aload_n 1, 1) by decide +kernel) rfl (lv_at hl 1 rfl) ?_
  refine lv_aload_n hx hb (show decode code 1308 = .ok (.aload_n 0, 1) by decide +kernel) rfl (lv_at hl 0 rfl) ?_
  refine lv_iload_n hx hb (show decode code 1309 = .ok (.iload_n 3, 1) by decide +kernel) rfl (lv_at hl 3 rfl) ?_
  refine lv_iconst (v := 1) hx hb (show decode code 1310 = .ok (.iconst 1, 1) by decide +kernel) (by decide) ?_
  refine lv_iadd hx hb (show decode code 1311 = .ok (.iadd, 1) by decide +kernel) ?_
  refine va_sld hx hb hX hbl hbA hS h1 (show decode code 1312 = .ok (.iaload, 1) by decide +kernel) ?_
  refine lv_aload_n hx hb (show decode code 1313 = .ok (.aload_n 0, 1) by decide +kernel) rfl (lv_at hl 0 rfl) ?_
  refine lv_iload_n hx hb (show decode code 1314 = .ok (.iload_n 3, 1) by decide +kernel) rfl (lv_at hl 3 rfl) ?_
  refine lv_iconst (v := 2) hx hb (show decode code 1315 = .ok (.iconst 2, 1) by decide +kernel) (by decide) ?_
  refine lv_iadd hx hb (show decode code 1316 = .ok (.iadd, 1) by decide +kernel) ?_
  refine va_sld hx hb hX hbl hbA hS h2 (show decode code 1317 = .ok (.iaload, 1) by decide +kernel) ?_
  refine lw_call (κ := κ) (ad := aX) (W2 := (aW ids aM κM σM)) (P' := pX11_befell) (d' := 2) (c0 := 11) (n := 0) (k := 0) [aI (xs (i + 1).toNatClampNeg), aI (xs (i + 2).toNatClampNeg)] [] hx hb hml hl.1 hown hts hcs hK rX oX (List.forall_mem_cons.mpr ⟨okv_of k0 (by decide), List.forall_mem_cons.mpr ⟨trivial, List.forall_mem_cons.mpr ⟨trivial, (fun _ hn => absurd hn List.not_mem_nil)⟩⟩⟩) wX wM dX ap hS hA xX okp_X11_befell (show decode code 1318 = .ok (.invokevirtual 171, 3) by decide +kernel) (List.mem_filter.mp ml_RL_171).1 vok_X11_befell (by decide) rfl nar_X11_befell ⟨rfl, rfl⟩ (Nat.le_of_ble_eq_true rfl) (ok_X11_befell fX) (fun o1 _ H1 locs1 v1 v2 hS => ?_)
  clear wX wM oX
  have wX := v1
  have wM := v2
  have oX := o1
  have dX := aW_D (σ' := σX1) dX
  have ap := apart2.left (σ' := σX1) ap
  refine lv_aload_n hx hb (show decode code 1321 = .ok (.aload_n 2, 1) by decide +kernel) rfl (lv_at hl 2 rfl) ?_
  refine lv_aload_n hx hb (show decode code 1322 = .ok (.aload_n 0, 1) by decide +kernel) rfl (lv_at hl 0 rfl) ?_
  refine lv_iload_n hx hb (show decode code 1323 = .ok (.iload_n 3, 1) by decide +kernel) rfl (lv_at hl 3 rfl) ?_
  refine lv_iconst (v := 1) hx hb (show decode code 1324 = .ok (.iconst 1, 1) by decide +kernel) (by decide) ?_
  refine lv_iadd hx hb (show decode code 1325 = .ok (.iadd, 1) by decide +kernel) ?_
  refine va_sld hx hb hX hbl hbA hS h1 (show decode code 1326 = .ok (.iaload, 1) by decide +kernel) ?_
  refine lv_aload_n hx hb (show decode code 1327 = .ok (.aload_n 0, 1) by decide +kernel) rfl (lv_at hl 0 rfl) ?_
  refine lv_iload_n hx hb (show decode code 1328 = .ok (.iload_n 3, 1) by decide +kernel) rfl (lv_at hl 3 rfl) ?_
  refine lv_iconst (v := 2) hx hb (show decode code 1329 = .ok (.iconst 2, 1) by decide +kernel) (by decide) ?_
  refine lv_iadd hx hb (show decode code 1330 = .ok (.iadd, 1) by decide +kernel) ?_
  refine va_sld hx hb hX hbl hbA hS h2 (show decode code 1331 = .ok (.iaload, 1) by decide +kernel) ?_
  refine lw_call (κ := κM) (ad := aM) (W2 := (aW ids aX κ σX1)) (P' := pX12_befell) (d' := 3) (c0 := 12) (n := 0) (k := 0) [aI (xs (i + 1).toNatClampNeg), aI (xs (i + 2).toNatClampNeg)] [.int r] hx hb hml hl.1 hown hts hcs hK regM oM (List.forall_mem_cons.mpr ⟨okv_of rfl (by decide), List.forall_mem_cons.mpr ⟨trivial, List.forall_mem_cons.mpr ⟨trivial, (fun _ hn => absurd hn List.not_mem_nil)⟩⟩⟩) wM wX dM ap.symm hS hA xM okp_X12_befell (show decode code 1332 = .ok (.invokevirtual 174, 3) by decide +kernel) (List.mem_filter.mp ml_RL_174).1 vok_X12_befell (by decide) rfl nar_X12_befell ⟨rfl, rfl⟩ (Nat.le_of_ble_eq_true rfl) (ok_X12_befell fM) (fun o1 _ H1 locs1 v1 v2 hS => ?_)
  clear wX wM oM
  have wM := v1
  have wX := v2
  have oM := o1
  have dM := aW_D (σ' := σM1) dM
  have ap := (apart2.left (σ' := σM1) ap.symm).symm
  refine lv_icmp_eq (tgt := 1441) hx hb (show decode code 1335 = .ok (.if_icmp .eq 106, 3) by decide +kernel) (by decide) (fun _ => ?_) (fun z => absurd rfl z)
  exact kk _ _ ⟨wX, wM, dX, dM, ap, hS, xX, xM, rX, oX, oM, k0⟩
set_option maxRecDepth 100000 in
set_option maxHeartbeats 4000000 in
theorem lwc_38 {p : Program} {l : Launch} {e : Env} {s : State} {m : MethodId} {args : Array Value} {below : List Frame} {meth : Method} {c : Code} {D : va_G} {ids : Ids} {A : Nat → Prop} {b L : Nat} {xs : Nat → Int32} (C : LC p s m args c D ids A b L xs) {aX aM : Nat → Nat} {κ : Kd} {σX σM : Sg} {H : Heap} {locs : List Loc} (B : LW s D ids A aX aM κ σX σM H locs) {cells slots : Nat} (hcs : cells ≤ room_1.cells ∧ slots ≤ room_1.slots) {ls : Array Slot} {i : Int32} (hl : lv_has ls 4 [(0, .ref b), (1, .ref (aX 0)), (2, .ref (aM 0)), (3, .int i)])  {Q : State → Prop} {r : Int32} {σX1 σM1 : Sg} (fX : f_X11_parts  σX = some (r, σX1)) (fM : f_X12_parts  σM = some (r, σM1)) (kk : ∀ (H1 : Heap) (locs1 : List Loc), LW s D ids A aX aM κ σX1 σM1 H1 locs1 → W p l e room_1 s m args below meth c H1 locs1 cells slots Q (F0 m 1441 ls [])) : W p l e room_1 s m args below meth c H locs cells slots Q (F0 m 1340 ls []) := by
  obtain ⟨hx, hb, hml, hown, hts, hK, hA, hX, hbl, hbA⟩ := C
  obtain ⟨wX, wM, dX, dM, ap, hS, xX, xM, rX, oX, oM, k0⟩ := B
  refine lv_aload_n hx hb (show decode code 1340 = .ok (.aload_n 1, 1) by decide +kernel) rfl (lv_at hl 1 rfl) ?_
  refine lw_call (κ := κ) (ad := aX) (W2 := (aW ids aM κM σM)) (P' := pX11_parts) (d' := 4) (c0 := 11) (n := 0) (k := 0) [] [] hx hb hml hl.1 hown hts hcs hK rX oX (List.forall_mem_cons.mpr ⟨okv_of k0 (by decide), (fun _ hn => absurd hn List.not_mem_nil)⟩) wX wM dX ap hS hA xX okp_X11_parts (show decode code 1341 = .ok (.invokevirtual 175, 3) by decide +kernel) (List.mem_filter.mp ml_RL_175).1 vok_X11_parts (by decide) rfl nar_X11_parts ⟨rfl, rfl⟩ (Nat.le_of_ble_eq_true rfl) (ok_X11_parts fX) (fun o1 _ H1 locs1 v1 v2 hS => ?_)
  clear wX wM oX
  have wX := v1
  have wM := v2
  have oX := o1
  have dX := aW_D (σ' := σX1) dX
  have ap := apart2.left (σ' := σX1) ap
  refine lv_aload_n hx hb (show decode code 1344 = .ok (.aload_n 2, 1) by decide +kernel) rfl (lv_at hl 2 rfl) ?_
  refine lw_call (κ := κM) (ad := aM) (W2 := (aW ids aX κ σX1)) (P' := pX12_parts) (d' := 4) (c0 := 12) (n := 0) (k := 0) [] [.int r] hx hb hml hl.1 hown hts hcs hK regM oM (List.forall_mem_cons.mpr ⟨okv_of rfl (by decide), (fun _ hn => absurd hn List.not_mem_nil)⟩) wM wX dM ap.symm hS hA xM okp_X12_parts (show decode code 1345 = .ok (.invokevirtual 178, 3) by decide +kernel) (List.mem_filter.mp ml_RL_178).1 vok_X12_parts (by decide) rfl nar_X12_parts ⟨rfl, rfl⟩ (Nat.le_of_ble_eq_true rfl) (ok_X12_parts fM) (fun o1 _ H1 locs1 v1 v2 hS => ?_)
  clear wX wM oM
  have wM := v1
  have wX := v2
  have oM := o1
  have dM := aW_D (σ' := σM1) dM
  have ap := (apart2.left (σ' := σM1) ap.symm).symm
  refine lv_icmp_eq (tgt := 1441) hx hb (show decode code 1348 = .ok (.if_icmp .eq 93, 3) by decide +kernel) (by decide) (fun _ => ?_) (fun z => absurd rfl z)
  exact kk _ _ ⟨wX, wM, dX, dM, ap, hS, xX, xM, rX, oX, oM, k0⟩
set_option maxRecDepth 100000 in
set_option maxHeartbeats 4000000 in
theorem lwc_39 {p : Program} {l : Launch} {e : Env} {s : State} {m : MethodId} {args : Array Value} {below : List Frame} {meth : Method} {c : Code} {D : va_G} {ids : Ids} {A : Nat → Prop} {b L : Nat} {xs : Nat → Int32} (C : LC p s m args c D ids A b L xs) {aX aM : Nat → Nat} {κ : Kd} {σX σM : Sg} {H : Heap} {locs : List Loc} (B : LW s D ids A aX aM κ σX σM H locs) {cells slots : Nat} (hcs : cells ≤ room_1.cells ∧ slots ≤ room_1.slots) {ls : Array Slot} {i : Int32} (hl : lv_has ls 4 [(0, .ref b), (1, .ref (aX 0)), (2, .ref (aM 0)), (3, .int i)])  {Q : State → Prop} {r : Int32} {σX1 σM1 : Sg} (fX : f_X11_warmest  σX = some (r, σX1)) (fM : f_X12_warmest  σM = some (r, σM1)) (kk : ∀ (H1 : Heap) (locs1 : List Loc), LW s D ids A aX aM κ σX1 σM1 H1 locs1 → W p l e room_1 s m args below meth c H1 locs1 cells slots Q (F0 m 1441 ls [])) : W p l e room_1 s m args below meth c H locs cells slots Q (F0 m 1353 ls []) := by
  obtain ⟨hx, hb, hml, hown, hts, hK, hA, hX, hbl, hbA⟩ := C
  obtain ⟨wX, wM, dX, dM, ap, hS, xX, xM, rX, oX, oM, k0⟩ := B
  refine lv_aload_n hx hb (show decode code 1353 = .ok (.aload_n 1, 1) by decide +kernel) rfl (lv_at hl 1 rfl) ?_
  refine lw_call (κ := κ) (ad := aX) (W2 := (aW ids aM κM σM)) (P' := pX11_warmest) (d' := 1) (c0 := 11) (n := 0) (k := 0) [] [] hx hb hml hl.1 hown hts hcs hK rX oX (List.forall_mem_cons.mpr ⟨okv_of k0 (by decide), (fun _ hn => absurd hn List.not_mem_nil)⟩) wX wM dX ap hS hA xX okp_X11_warmest (show decode code 1354 = .ok (.invokevirtual 179, 3) by decide +kernel) (List.mem_filter.mp ml_RL_179).1 vok_X11_warmest (by decide) rfl nar_X11_warmest ⟨rfl, rfl⟩ (Nat.le_of_ble_eq_true rfl) (ok_X11_warmest fX) (fun o1 _ H1 locs1 v1 v2 hS => ?_)
  clear wX wM oX
  have wX := v1
  have wM := v2
  have oX := o1
  have dX := aW_D (σ' := σX1) dX
  have ap := apart2.left (σ' := σX1) ap
  refine lv_aload_n hx hb (show decode code 1357 = .ok (.aload_n 2, 1) by decide +kernel) rfl (lv_at hl 2 rfl) ?_
  refine lw_call (κ := κM) (ad := aM) (W2 := (aW ids aX κ σX1)) (P' := pX12_warmest) (d' := 2) (c0 := 12) (n := 0) (k := 0) [] [.int r] hx hb hml hl.1 hown hts hcs hK regM oM (List.forall_mem_cons.mpr ⟨okv_of rfl (by decide), (fun _ hn => absurd hn List.not_mem_nil)⟩) wM wX dM ap.symm hS hA xM okp_X12_warmest (show decode code 1358 = .ok (.invokevirtual 182, 3) by decide +kernel) (List.mem_filter.mp ml_RL_182).1 vok_X12_warmest (by decide) rfl nar_X12_warmest ⟨rfl, rfl⟩ (Nat.le_of_ble_eq_true rfl) (ok_X12_warmest fM) (fun o1 _ H1 locs1 v1 v2 hS => ?_)
  clear wX wM oM
  have wM := v1
  have wX := v2
  have oM := o1
  have dM := aW_D (σ' := σM1) dM
  have ap := (apart2.left (σ' := σM1) ap.symm).symm
  refine lv_icmp_eq (tgt := 1441) hx hb (show decode code 1361 = .ok (.if_icmp .eq 80, 3) by decide +kernel) (by decide) (fun _ => ?_) (fun z => absurd rfl z)
  exact kk _ _ ⟨wX, wM, dX, dM, ap, hS, xX, xM, rX, oX, oM, k0⟩
set_option maxRecDepth 100000 in
set_option maxHeartbeats 4000000 in
theorem lwc_40 {p : Program} {l : Launch} {e : Env} {s : State} {m : MethodId} {args : Array Value} {below : List Frame} {meth : Method} {c : Code} {D : va_G} {ids : Ids} {A : Nat → Prop} {b L : Nat} {xs : Nat → Int32} (C : LC p s m args c D ids A b L xs) {aX aM : Nat → Nat} {κ : Kd} {σX σM : Sg} {H : Heap} {locs : List Loc} (B : LW s D ids A aX aM κ σX σM H locs) {cells slots : Nat} (hcs : cells ≤ room_1.cells ∧ slots ≤ room_1.slots) {ls : Array Slot} {i : Int32} (hl : lv_has ls 4 [(0, .ref b), (1, .ref (aX 0)), (2, .ref (aM 0)), (3, .int i)])  {Q : State → Prop} {r : Int32} {σX1 σM1 : Sg} (fX : f_X11_leaves  σX = some (r, σX1)) (fM : f_X12_leaves  σM = some (r, σM1)) (kk : ∀ (H1 : Heap) (locs1 : List Loc), LW s D ids A aX aM κ σX1 σM1 H1 locs1 → W p l e room_1 s m args below meth c H1 locs1 cells slots Q (F0 m 1441 ls [])) : W p l e room_1 s m args below meth c H locs cells slots Q (F0 m 1366 ls []) := by
  obtain ⟨hx, hb, hml, hown, hts, hK, hA, hX, hbl, hbA⟩ := C
  obtain ⟨wX, wM, dX, dM, ap, hS, xX, xM, rX, oX, oM, k0⟩ := B
  refine lv_aload_n hx hb (show decode code 1366 = .ok (.aload_n 1, 1) by decide +kernel) rfl (lv_at hl 1 rfl) ?_
  refine lw_call (κ := κ) (ad := aX) (W2 := (aW ids aM κM σM)) (P' := pX11_leaves) (d' := 2) (c0 := 11) (n := 0) (k := 0) [] [] hx hb hml hl.1 hown hts hcs hK rX oX (List.forall_mem_cons.mpr ⟨okv_of k0 (by decide), (fun _ hn => absurd hn List.not_mem_nil)⟩) wX wM dX ap hS hA xX okp_X11_leaves (show decode code 1367 = .ok (.invokevirtual 183, 3) by decide +kernel) (List.mem_filter.mp ml_RL_183).1 vok_X11_leaves (by decide) rfl nar_X11_leaves ⟨rfl, rfl⟩ (Nat.le_of_ble_eq_true rfl) (ok_X11_leaves fX) (fun o1 _ H1 locs1 v1 v2 hS => ?_)
  clear wX wM oX
  have wX := v1
  have wM := v2
  have oX := o1
  have dX := aW_D (σ' := σX1) dX
  have ap := apart2.left (σ' := σX1) ap
  refine lv_aload_n hx hb (show decode code 1370 = .ok (.aload_n 2, 1) by decide +kernel) rfl (lv_at hl 2 rfl) ?_
  refine lw_call (κ := κM) (ad := aM) (W2 := (aW ids aX κ σX1)) (P' := pX12_leaves) (d' := 3) (c0 := 12) (n := 0) (k := 0) [] [.int r] hx hb hml hl.1 hown hts hcs hK regM oM (List.forall_mem_cons.mpr ⟨okv_of rfl (by decide), (fun _ hn => absurd hn List.not_mem_nil)⟩) wM wX dM ap.symm hS hA xM okp_X12_leaves (show decode code 1371 = .ok (.invokevirtual 186, 3) by decide +kernel) (List.mem_filter.mp ml_RL_186).1 vok_X12_leaves (by decide) rfl nar_X12_leaves ⟨rfl, rfl⟩ (Nat.le_of_ble_eq_true rfl) (ok_X12_leaves fM) (fun o1 _ H1 locs1 v1 v2 hS => ?_)
  clear wX wM oM
  have wM := v1
  have wX := v2
  have oM := o1
  have dM := aW_D (σ' := σM1) dM
  have ap := (apart2.left (σ' := σM1) ap.symm).symm
  refine lv_icmp_eq (tgt := 1441) hx hb (show decode code 1374 = .ok (.if_icmp .eq 67, 3) by decide +kernel) (by decide) (fun _ => ?_) (fun z => absurd rfl z)
  exact kk _ _ ⟨wX, wM, dX, dM, ap, hS, xX, xM, rX, oX, oM, k0⟩
set_option maxRecDepth 100000 in
set_option maxHeartbeats 4000000 in
theorem lwc_41 {p : Program} {l : Launch} {e : Env} {s : State} {m : MethodId} {args : Array Value} {below : List Frame} {meth : Method} {c : Code} {D : va_G} {ids : Ids} {A : Nat → Prop} {b L : Nat} {xs : Nat → Int32} (C : LC p s m args c D ids A b L xs) {aX aM : Nat → Nat} {κ : Kd} {σX σM : Sg} {H : Heap} {locs : List Loc} (B : LW s D ids A aX aM κ σX σM H locs) {cells slots : Nat} (hcs : cells ≤ room_1.cells ∧ slots ≤ room_1.slots) {ls : Array Slot} {i : Int32} (hl : lv_has ls 4 [(0, .ref b), (1, .ref (aX 0)), (2, .ref (aM 0)), (3, .int i)])  {Q : State → Prop} {r : Int32} {σX1 σM1 : Sg} (fX : f_X11_kept  σX = some (r, σX1)) (fM : f_X12_kept  σM = some (r, σM1)) (kk : ∀ (H1 : Heap) (locs1 : List Loc), LW s D ids A aX aM κ σX1 σM1 H1 locs1 → W p l e room_1 s m args below meth c H1 locs1 cells slots Q (F0 m 1441 ls [])) : W p l e room_1 s m args below meth c H locs cells slots Q (F0 m 1379 ls []) := by
  obtain ⟨hx, hb, hml, hown, hts, hK, hA, hX, hbl, hbA⟩ := C
  obtain ⟨wX, wM, dX, dM, ap, hS, xX, xM, rX, oX, oM, k0⟩ := B
  refine lv_aload_n hx hb (show decode code 1379 = .ok (.aload_n 1, 1) by decide +kernel) rfl (lv_at hl 1 rfl) ?_
  refine lw_call (κ := κ) (ad := aX) (W2 := (aW ids aM κM σM)) (P' := pX11_kept) (d' := 2) (c0 := 11) (n := 0) (k := 0) [] [] hx hb hml hl.1 hown hts hcs hK rX oX (List.forall_mem_cons.mpr ⟨okv_of k0 (by decide), (fun _ hn => absurd hn List.not_mem_nil)⟩) wX wM dX ap hS hA xX okp_X11_kept (show decode code 1380 = .ok (.invokevirtual 187, 3) by decide +kernel) (List.mem_filter.mp ml_RL_187).1 vok_X11_kept (by decide) rfl nar_X11_kept ⟨rfl, rfl⟩ (Nat.le_of_ble_eq_true rfl) (ok_X11_kept fX) (fun o1 _ H1 locs1 v1 v2 hS => ?_)
  clear wX wM oX
  have wX := v1
  have wM := v2
  have oX := o1
  have dX := aW_D (σ' := σX1) dX
  have ap := apart2.left (σ' := σX1) ap
  refine lv_aload_n hx hb (show decode code 1383 = .ok (.aload_n 2, 1) by decide +kernel) rfl (lv_at hl 2 rfl) ?_
  refine lw_call (κ := κM) (ad := aM) (W2 := (aW ids aX κ σX1)) (P' := pX12_kept) (d' := 3) (c0 := 12) (n := 0) (k := 0) [] [.int r] hx hb hml hl.1 hown hts hcs hK regM oM (List.forall_mem_cons.mpr ⟨okv_of rfl (by decide), (fun _ hn => absurd hn List.not_mem_nil)⟩) wM wX dM ap.symm hS hA xM okp_X12_kept (show decode code 1384 = .ok (.invokevirtual 190, 3) by decide +kernel) (List.mem_filter.mp ml_RL_190).1 vok_X12_kept (by decide) rfl nar_X12_kept ⟨rfl, rfl⟩ (Nat.le_of_ble_eq_true rfl) (ok_X12_kept fM) (fun o1 _ H1 locs1 v1 v2 hS => ?_)
  clear wX wM oM
  have wM := v1
  have wX := v2
  have oM := o1
  have dM := aW_D (σ' := σM1) dM
  have ap := (apart2.left (σ' := σM1) ap.symm).symm
  refine lv_icmp_eq (tgt := 1441) hx hb (show decode code 1387 = .ok (.if_icmp .eq 54, 3) by decide +kernel) (by decide) (fun _ => ?_) (fun z => absurd rfl z)
  exact kk _ _ ⟨wX, wM, dX, dM, ap, hS, xX, xM, rX, oX, oM, k0⟩
set_option maxRecDepth 100000 in
set_option maxHeartbeats 4000000 in
theorem lwc_42 {p : Program} {l : Launch} {e : Env} {s : State} {m : MethodId} {args : Array Value} {below : List Frame} {meth : Method} {c : Code} {D : va_G} {ids : Ids} {A : Nat → Prop} {b L : Nat} {xs : Nat → Int32} (C : LC p s m args c D ids A b L xs) {aX aM : Nat → Nat} {κ : Kd} {σX σM : Sg} {H : Heap} {locs : List Loc} (B : LW s D ids A aX aM κ σX σM H locs) {cells slots : Nat} (hcs : cells ≤ room_1.cells ∧ slots ≤ room_1.slots) {ls : Array Slot} {i : Int32} (hl : lv_has ls 4 [(0, .ref b), (1, .ref (aX 0)), (2, .ref (aM 0)), (3, .int i)])  {Q : State → Prop} {r : Int32} {σX1 σM1 : Sg} (fX : f_X11_image  σX = some (r, σX1)) (fM : f_X12_image  σM = some (r, σM1)) (kk : ∀ (H1 : Heap) (locs1 : List Loc), LW s D ids A aX aM κ σX1 σM1 H1 locs1 → W p l e room_1 s m args below meth c H1 locs1 cells slots Q (F0 m 1441 ls [])) : W p l e room_1 s m args below meth c H locs cells slots Q (F0 m 1392 ls []) := by
  obtain ⟨hx, hb, hml, hown, hts, hK, hA, hX, hbl, hbA⟩ := C
  obtain ⟨wX, wM, dX, dM, ap, hS, xX, xM, rX, oX, oM, k0⟩ := B
  refine lv_aload_n hx hb (show decode code 1392 = .ok (.aload_n 1, 1) by decide +kernel) rfl (lv_at hl 1 rfl) ?_
  refine lw_call (κ := κ) (ad := aX) (W2 := (aW ids aM κM σM)) (P' := pX11_image) (d' := 4) (c0 := 11) (n := 0) (k := 0) [] [] hx hb hml hl.1 hown hts hcs hK rX oX (List.forall_mem_cons.mpr ⟨okv_of k0 (by decide), (fun _ hn => absurd hn List.not_mem_nil)⟩) wX wM dX ap hS hA xX okp_X11_image (show decode code 1393 = .ok (.invokevirtual 191, 3) by decide +kernel) (List.mem_filter.mp ml_RL_191).1 vok_X11_image (by decide) rfl nar_X11_image ⟨rfl, rfl⟩ (Nat.le_of_ble_eq_true rfl) (ok_X11_image fX) (fun o1 _ H1 locs1 v1 v2 hS => ?_)
  clear wX wM oX
  have wX := v1
  have wM := v2
  have oX := o1
  have dX := aW_D (σ' := σX1) dX
  have ap := apart2.left (σ' := σX1) ap
  refine lv_aload_n hx hb (show decode code 1396 = .ok (.aload_n 2, 1) by decide +kernel) rfl (lv_at hl 2 rfl) ?_
  refine lw_call (κ := κM) (ad := aM) (W2 := (aW ids aX κ σX1)) (P' := pX12_image) (d' := 2) (c0 := 12) (n := 0) (k := 0) [] [.int r] hx hb hml hl.1 hown hts hcs hK regM oM (List.forall_mem_cons.mpr ⟨okv_of rfl (by decide), (fun _ hn => absurd hn List.not_mem_nil)⟩) wM wX dM ap.symm hS hA xM okp_X12_image (show decode code 1397 = .ok (.invokevirtual 194, 3) by decide +kernel) (List.mem_filter.mp ml_RL_194).1 vok_X12_image (by decide) rfl nar_X12_image ⟨rfl, rfl⟩ (Nat.le_of_ble_eq_true rfl) (ok_X12_image fM) (fun o1 _ H1 locs1 v1 v2 hS => ?_)
  clear wX wM oM
  have wM := v1
  have wX := v2
  have oM := o1
  have dM := aW_D (σ' := σM1) dM
  have ap := (apart2.left (σ' := σM1) ap.symm).symm
  refine lv_icmp_eq (tgt := 1441) hx hb (show decode code 1400 = .ok (.if_icmp .eq 41, 3) by decide +kernel) (by decide) (fun _ => ?_) (fun z => absurd rfl z)
  exact kk _ _ ⟨wX, wM, dX, dM, ap, hS, xX, xM, rX, oX, oM, k0⟩
set_option maxRecDepth 100000 in
set_option maxHeartbeats 4000000 in
theorem lwc_43 {p : Program} {l : Launch} {e : Env} {s : State} {m : MethodId} {args : Array Value} {below : List Frame} {meth : Method} {c : Code} {D : va_G} {ids : Ids} {A : Nat → Prop} {b L : Nat} {xs : Nat → Int32} (C : LC p s m args c D ids A b L xs) {aX aM : Nat → Nat} {κ : Kd} {σX σM : Sg} {H : Heap} {locs : List Loc} (B : LW s D ids A aX aM κ σX σM H locs) {cells slots : Nat} (hcs : cells ≤ room_1.cells ∧ slots ≤ room_1.slots) {ls : Array Slot} {i : Int32} (hl : lv_has ls 4 [(0, .ref b), (1, .ref (aX 0)), (2, .ref (aM 0)), (3, .int i)])  {Q : State → Prop} {r : Int32} {σX1 σM1 : Sg} (fX : f_X11_back  σX = some (r, σX1)) (fM : f_X12_back  σM = some (r, σM1)) (kk : ∀ (H1 : Heap) (locs1 : List Loc), LW s D ids A aX aM κ σX1 σM1 H1 locs1 → W p l e room_1 s m args below meth c H1 locs1 cells slots Q (F0 m 1441 ls [])) : W p l e room_1 s m args below meth c H locs cells slots Q (F0 m 1405 ls []) := by
  obtain ⟨hx, hb, hml, hown, hts, hK, hA, hX, hbl, hbA⟩ := C
  obtain ⟨wX, wM, dX, dM, ap, hS, xX, xM, rX, oX, oM, k0⟩ := B
  refine lv_aload_n hx hb (show decode code 1405 = .ok (.aload_n 1, 1) by decide +kernel) rfl (lv_at hl 1 rfl) ?_
  refine lw_call (κ := κ) (ad := aX) (W2 := (aW ids aM κM σM)) (P' := pX11_back) (d' := 4) (c0 := 11) (n := 0) (k := 0) [] [] hx hb hml hl.1 hown hts hcs hK rX oX (List.forall_mem_cons.mpr ⟨okv_of k0 (by decide), (fun _ hn => absurd hn List.not_mem_nil)⟩) wX wM dX ap hS hA xX okp_X11_back (show decode code 1406 = .ok (.invokevirtual 195, 3) by decide +kernel) (List.mem_filter.mp ml_RL_195).1 vok_X11_back (by decide) rfl nar_X11_back ⟨rfl, rfl⟩ (Nat.le_of_ble_eq_true rfl) (ok_X11_back fX) (fun o1 _ H1 locs1 v1 v2 hS => ?_)
  clear wX wM oX
  have wX := v1
  have wM := v2
  have oX := o1
  have dX := aW_D (σ' := σX1) dX
  have ap := apart2.left (σ' := σX1) ap
  refine lv_aload_n hx hb (show decode code 1409 = .ok (.aload_n 2, 1) by decide +kernel) rfl (lv_at hl 2 rfl) ?_
  refine lw_call (κ := κM) (ad := aM) (W2 := (aW ids aX κ σX1)) (P' := pX12_back) (d' := 2) (c0 := 12) (n := 0) (k := 0) [] [.int r] hx hb hml hl.1 hown hts hcs hK regM oM (List.forall_mem_cons.mpr ⟨okv_of rfl (by decide), (fun _ hn => absurd hn List.not_mem_nil)⟩) wM wX dM ap.symm hS hA xM okp_X12_back (show decode code 1410 = .ok (.invokevirtual 198, 3) by decide +kernel) (List.mem_filter.mp ml_RL_198).1 vok_X12_back (by decide) rfl nar_X12_back ⟨rfl, rfl⟩ (Nat.le_of_ble_eq_true rfl) (ok_X12_back fM) (fun o1 _ H1 locs1 v1 v2 hS => ?_)
  clear wX wM oM
  have wM := v1
  have wX := v2
  have oM := o1
  have dM := aW_D (σ' := σM1) dM
  have ap := (apart2.left (σ' := σM1) ap.symm).symm
  refine lv_icmp_eq (tgt := 1441) hx hb (show decode code 1413 = .ok (.if_icmp .eq 28, 3) by decide +kernel) (by decide) (fun _ => ?_) (fun z => absurd rfl z)
  exact kk _ _ ⟨wX, wM, dX, dM, ap, hS, xX, xM, rX, oX, oM, k0⟩
set_option maxRecDepth 100000 in
set_option maxHeartbeats 4000000 in
theorem lwc_44 {p : Program} {l : Launch} {e : Env} {s : State} {m : MethodId} {args : Array Value} {below : List Frame} {meth : Method} {c : Code} {D : va_G} {ids : Ids} {A : Nat → Prop} {b L : Nat} {xs : Nat → Int32} (C : LC p s m args c D ids A b L xs) {aX aM : Nat → Nat} {κ : Kd} {σX σM : Sg} {H : Heap} {locs : List Loc} (B : LW s D ids A aX aM κ σX σM H locs) {cells slots : Nat} (hcs : cells ≤ room_1.cells ∧ slots ≤ room_1.slots) {ls : Array Slot} {i : Int32} (hl : lv_has ls 4 [(0, .ref b), (1, .ref (aX 0)), (2, .ref (aM 0)), (3, .int i)]) (h1 : vp_in (i + 1) L) {Q : State → Prop} {r : Int32} {σX1 σM1 : Sg} (fX : f_X11_about (xs (ix (i + 1))) σX = some (r, σX1)) (fM : f_X12_about (xs (ix (i + 1))) σM = some (r, σM1)) (kk : ∀ (H1 : Heap) (locs1 : List Loc), LW s D ids A aX aM κ σX1 σM1 H1 locs1 → W p l e room_1 s m args below meth c H1 locs1 cells slots Q (F0 m 1441 ls [])) : W p l e room_1 s m args below meth c H locs cells slots Q (F0 m 1418 ls []) := by
  obtain ⟨hx, hb, hml, hown, hts, hK, hA, hX, hbl, hbA⟩ := C
  obtain ⟨wX, wM, dX, dM, ap, hS, xX, xM, rX, oX, oM, k0⟩ := B
  unfold ix at fX fM
  refine lv_aload_n hx hb (show decode code 1418 = .ok (.aload_n 1, 1) by decide +kernel) rfl (lv_at hl 1 rfl) ?_
  refine lv_aload_n hx hb (show decode code 1419 = .ok (.aload_n 0, 1) by decide +kernel) rfl (lv_at hl 0 rfl) ?_
  refine lv_iload_n hx hb (show decode code 1420 = .ok (.iload_n 3, 1) by decide +kernel) rfl (lv_at hl 3 rfl) ?_
  refine lv_iconst (v := 1) hx hb (show decode code 1421 = .ok (.iconst 1, 1) by decide +kernel) (by decide) ?_
  refine lv_iadd hx hb (show decode code 1422 = .ok (.iadd, 1) by decide +kernel) ?_
  refine va_sld hx hb hX hbl hbA hS h1 (show decode code 1423 = .ok (.iaload, 1) by decide +kernel) ?_
  refine lw_call (κ := κ) (ad := aX) (W2 := (aW ids aM κM σM)) (P' := pX11_about) (d' := 1) (c0 := 11) (n := 0) (k := 0) [aI (xs (i + 1).toNatClampNeg)] [] hx hb hml hl.1 hown hts hcs hK rX oX (List.forall_mem_cons.mpr ⟨okv_of k0 (by decide), List.forall_mem_cons.mpr ⟨trivial, (fun _ hn => absurd hn List.not_mem_nil)⟩⟩) wX wM dX ap hS hA xX okp_X11_about (show decode code 1424 = .ok (.invokevirtual 199, 3) by decide +kernel) (List.mem_filter.mp ml_RL_199).1 vok_X11_about (by decide) rfl nar_X11_about ⟨rfl, rfl⟩ (Nat.le_of_ble_eq_true rfl) (ok_X11_about fX) (fun o1 _ H1 locs1 v1 v2 hS => ?_)
  clear wX wM oX
  have wX := v1
  have wM := v2
  have oX := o1
  have dX := aW_D (σ' := σX1) dX
  have ap := apart2.left (σ' := σX1) ap
  refine lv_aload_n hx hb (show decode code 1427 = .ok (.aload_n 2, 1) by decide +kernel) rfl (lv_at hl 2 rfl) ?_
  refine lv_aload_n hx hb (show decode code 1428 = .ok (.aload_n 0, 1) by decide +kernel) rfl (lv_at hl 0 rfl) ?_
  refine lv_iload_n hx hb (show decode code 1429 = .ok (.iload_n 3, 1) by decide +kernel) rfl (lv_at hl 3 rfl) ?_
  refine lv_iconst (v := 1) hx hb (show decode code 1430 = .ok (.iconst 1, 1) by decide +kernel) (by decide) ?_
  refine lv_iadd hx hb (show decode code 1431 = .ok (.iadd, 1) by decide +kernel) ?_
  refine va_sld hx hb hX hbl hbA hS h1 (show decode code 1432 = .ok (.iaload, 1) by decide +kernel) ?_
  refine lw_call (κ := κM) (ad := aM) (W2 := (aW ids aX κ σX1)) (P' := pX12_about) (d' := 2) (c0 := 12) (n := 0) (k := 0) [aI (xs (i + 1).toNatClampNeg)] [.int r] hx hb hml hl.1 hown hts hcs hK regM oM (List.forall_mem_cons.mpr ⟨okv_of rfl (by decide), List.forall_mem_cons.mpr ⟨trivial, (fun _ hn => absurd hn List.not_mem_nil)⟩⟩) wM wX dM ap.symm hS hA xM okp_X12_about (show decode code 1433 = .ok (.invokevirtual 202, 3) by decide +kernel) (List.mem_filter.mp ml_RL_202).1 vok_X12_about (by decide) rfl nar_X12_about ⟨rfl, rfl⟩ (Nat.le_of_ble_eq_true rfl) (ok_X12_about fM) (fun o1 _ H1 locs1 v1 v2 hS => ?_)
  clear wX wM oM
  have wM := v1
  have wX := v2
  have oM := o1
  have dM := aW_D (σ' := σM1) dM
  have ap := (apart2.left (σ' := σM1) ap.symm).symm
  refine lv_icmp_eq (tgt := 1441) hx hb (show decode code 1436 = .ok (.if_icmp .eq 5, 3) by decide +kernel) (by decide) (fun _ => ?_) (fun z => absurd rfl z)
  exact kk _ _ ⟨wX, wM, dX, dM, ap, hS, xX, xM, rX, oX, oM, k0⟩
