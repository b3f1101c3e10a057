/-! the law: cases 0 on -/
set_option maxRecDepth 100000 in
set_option maxHeartbeats 4000000 in
theorem lwc_0 {p : Program} {l : Launch} {e : Env} {s : State} {m : MethodId} {args : Array Value} {below : List Frame} {meth : Method} {c : Code} {D : va_G} {ids : Ids} {A : Nat → Prop} {b L : Nat} {xs : Nat → Int32} (C : LC p s m args c D ids A b L xs) {aX aM : Nat → Nat} {κ : Kd} {σX σM : Sg} {H : Heap} {locs : List Loc} (B : LW s D ids A aX aM κ σX σM H locs) {cells slots : Nat} (hcs : cells ≤ room_1.cells ∧ slots ≤ room_1.slots) {ls : Array Slot} {i : Int32} (hl : lv_has ls 4 [(0, .ref b), (1, .ref (aX 0)), (2, .ref (aM 0)), (3, .int i)]) (h1 : vp_in (i + 1) L) (h2 : vp_in (i + 2) L) {Q : State → Prop} {r : Int32} {σX1 σM1 : Sg} (fX : f_X11_house (xs (ix (i + 1))) (xs (ix (i + 2))) σX = some (r, σX1)) (fM : f_X12_house (xs (ix (i + 1))) (xs (ix (i + 2))) σM = some (r, σM1)) (kk : ∀ (H1 : Heap) (locs1 : List Loc), LW s D ids A aX aM κ σX1 σM1 H1 locs1 → W p l e room_1 s m args below meth c H1 locs1 cells slots Q (F0 m 1441 ls [])) : W p l e room_1 s m args below meth c H locs cells slots Q (F0 m 228 ls []) := by
  obtain ⟨hx, hb, hml, hown, hts, hK, hA, hX, hbl, hbA⟩ := C
  obtain ⟨wX, wM, dX, dM, ap, hS, xX, xM, rX, oX, oM, k0⟩ := B
  unfold ix at fX fM
  refine lv_aload_n hx hb (show decode code 228 = .ok (.aload_n 1, 1) by decide +kernel) rfl (lv_at hl 1 rfl) ?_
  refine lv_aload_n hx hb (show decode code 229 = .ok (.aload_n 0, 1) by decide +kernel) rfl (lv_at hl 0 rfl) ?_
  refine lv_iload_n hx hb (show decode code 230 = .ok (.iload_n 3, 1) by decide +kernel) rfl (lv_at hl 3 rfl) ?_
  refine lv_iconst (v := 1) hx hb (show decode code 231 = .ok (.iconst 1, 1) by decide +kernel) (by decide) ?_
  refine lv_iadd hx hb (show decode code 232 = .ok (.iadd, 1) by decide +kernel) ?_
  refine va_sld hx hb hX hbl hbA hS h1 (show decode code 233 = .ok (.iaload, 1) by decide +kernel) ?_
  refine lv_aload_n hx hb (show decode code 234 = .ok (.aload_n 0, 1) by decide +kernel) rfl (lv_at hl 0 rfl) ?_
  refine lv_iload_n hx hb (show decode code 235 = .ok (.iload_n 3, 1) by decide +kernel) rfl (lv_at hl 3 rfl) ?_
  refine lv_iconst (v := 2) hx hb (show decode code 236 = .ok (.iconst 2, 1) by decide +kernel) (by decide) ?_
  refine lv_iadd hx hb (show decode code 237 = .ok (.iadd, 1) by decide +kernel) ?_
  refine va_sld hx hb hX hbl hbA hS h2 (show decode code 238 = .ok (.iaload, 1) by decide +kernel) ?_
  refine lw_call (κ := κ) (ad := aX) (W2 := (aW ids aM κM σM)) (P' := pX11_house) (d' := 3) (c0 := 11) (n := 0) (k := 0) [aI (xs (i + 1).toNatClampNeg), aI (xs (i + 2).toNatClampNeg)] [] hx hb hml hl.1 hown hts hcs hK rX oX (List.forall_mem_cons.mpr ⟨okv_of k0 (by decide), List.forall_mem_cons.mpr ⟨trivial, List.forall_mem_cons.mpr ⟨trivial, (fun _ hn => absurd hn List.not_mem_nil)⟩⟩⟩) wX wM dX ap hS hA xX okp_X11_house (show decode code 239 = .ok (.invokevirtual 13, 3) by decide +kernel) (List.mem_filter.mp ml_RL_13).1 vok_X11_house (by decide) rfl nar_X11_house ⟨rfl, rfl⟩ (Nat.le_of_ble_eq_true rfl) (ok_X11_house fX) (fun o1 _ H1 locs1 v1 v2 hS => ?_)
  clear wX wM oX
  have wX := v1
  have wM := v2
  have oX := o1
  have dX := aW_D (σ' := σX1) dX
  have ap := apart2.left (σ' := σX1) ap
  refine lv_aload_n hx hb (show decode code 242 = .ok (.aload_n 2, 1) by decide +kernel) rfl (lv_at hl 2 rfl) ?_
  refine lv_aload_n hx hb (show decode code 243 = .ok (.aload_n 0, 1) by decide +kernel) rfl (lv_at hl 0 rfl) ?_
  refine lv_iload_n hx hb (show decode code 244 = .ok (.iload_n 3, 1) by decide +kernel) rfl (lv_at hl 3 rfl) ?_
  refine lv_iconst (v := 1) hx hb (show decode code 245 = .ok (.iconst 1, 1) by decide +kernel) (by decide) ?_
  refine lv_iadd hx hb (show decode code 246 = .ok (.iadd, 1) by decide +kernel) ?_
  refine va_sld hx hb hX hbl hbA hS h1 (show decode code 247 = .ok (.iaload, 1) by decide +kernel) ?_
  refine lv_aload_n hx hb (show decode code 248 = .ok (.aload_n 0, 1) by decide +kernel) rfl (lv_at hl 0 rfl) ?_
  refine lv_iload_n hx hb (show decode code 249 = .ok (.iload_n 3, 1) by decide +kernel) rfl (lv_at hl 3 rfl) ?_
  refine lv_iconst (v := 2) hx hb (show decode code 250 = .ok (.iconst 2, 1) by decide +kernel) (by decide) ?_
  refine lv_iadd hx hb (show decode code 251 = .ok (.iadd, 1) by decide +kernel) ?_
  refine va_sld hx hb hX hbl hbA hS h2 (show decode code 252 = .ok (.iaload, 1) by decide +kernel) ?_
  refine lw_call (κ := κM) (ad := aM) (W2 := (aW ids aX κ σX1)) (P' := pX12_house) (d' := 3) (c0 := 12) (n := 0) (k := 0) [aI (xs (i + 1).toNatClampNeg), aI (xs (i + 2).toNatClampNeg)] [.int r] hx hb hml hl.1 hown hts hcs hK regM oM (List.forall_mem_cons.mpr ⟨okv_of rfl (by decide), List.forall_mem_cons.mpr ⟨trivial, List.forall_mem_cons.mpr ⟨trivial, (fun _ hn => absurd hn List.not_mem_nil)⟩⟩⟩) wM wX dM ap.symm hS hA xM okp_X12_house (show decode code 253 = .ok (.invokevirtual 17, 3) by decide +kernel) (List.mem_filter.mp ml_RL_17).1 vok_X12_house (by decide) rfl nar_X12_house ⟨rfl, rfl⟩ (Nat.le_of_ble_eq_true rfl) (ok_X12_house fM) (fun o1 _ H1 locs1 v1 v2 hS => ?_)
  clear wX wM oM
  have wM := v1
  have wX := v2
  have oM := o1
  have dM := aW_D (σ' := σM1) dM
  have ap := (apart2.left (σ' := σM1) ap.symm).symm
  refine lv_icmp_eq (tgt := 1441) hx hb (show decode code 256 = .ok (.if_icmp .eq 1185, 3) by decide +kernel) (by decide) (fun _ => ?_) (fun z => absurd rfl z)
  exact kk _ _ ⟨wX, wM, dX, dM, ap, hS, xX, xM, rX, oX, oM, k0⟩
set_option maxRecDepth 100000 in
set_option maxHeartbeats 4000000 in
theorem lwc_1 {p : Program} {l : Launch} {e : Env} {s : State} {m : MethodId} {args : Array Value} {below : List Frame} {meth : Method} {c : Code} {D : va_G} {ids : Ids} {A : Nat → Prop} {b L : Nat} {xs : Nat → Int32} (C : LC p s m args c D ids A b L xs) {aX aM : Nat → Nat} {κ : Kd} {σX σM : Sg} {H : Heap} {locs : List Loc} (B : LW s D ids A aX aM κ σX σM H locs) {cells slots : Nat} (hcs : cells ≤ room_1.cells ∧ slots ≤ room_1.slots) {ls : Array Slot} {i : Int32} (hl : lv_has ls 4 [(0, .ref b), (1, .ref (aX 0)), (2, .ref (aM 0)), (3, .int i)]) (h1 : vp_in (i + 1) L) (h2 : vp_in (i + 2) L) (h3 : vp_in (i + 3) L) {Q : State → Prop} {r : Int32} {σX1 σM1 : Sg} (fX : f_X11_street (xs (ix (i + 1))) (xs (ix (i + 2))) (xs (ix (i + 3))) σX = some (r, σX1)) (fM : f_X12_street (xs (ix (i + 1))) (xs (ix (i + 2))) (xs (ix (i + 3))) σM = some (r, σM1)) (kk : ∀ (H1 : Heap) (locs1 : List Loc), LW s D ids A aX aM κ σX1 σM1 H1 locs1 → W p l e room_1 s m args below meth c H1 locs1 cells slots Q (F0 m 1441 ls [])) : W p l e room_1 s m args below meth c H locs cells slots Q (F0 m 261 ls []) := by
  obtain ⟨hx, hb, hml, hown, hts, hK, hA, hX, hbl, hbA⟩ := C
  obtain ⟨wX, wM, dX, dM, ap, hS, xX, xM, rX, oX, oM, k0⟩ := B
  unfold ix at fX fM
  refine lv_aload_n hx hb (show decode code 261 = .ok (.aload_n 1, 1) by decide +kernel) rfl (lv_at hl 1 rfl) ?_
  refine lv_aload_n hx hb (show decode code 262 = .ok (.aload_n 0, 1) by decide +kernel) rfl (lv_at hl 0 rfl) ?_
  refine lv_iload_n hx hb (show decode code 263 = .ok (.iload_n 3, 1) by decide +kernel) rfl (lv_at hl 3 rfl) ?_
  refine lv_iconst (v := 1) hx hb (show decode code 264 = .ok (.iconst 1, 1) by decide +kernel) (by decide) ?_
  refine lv_iadd hx hb (show decode code 265 = .ok (.iadd, 1) by decide +kernel) ?_
  refine va_sld hx hb hX hbl hbA hS h1 (show decode code 266 = .ok (.iaload, 1) by decide +kernel) ?_
  refine lv_aload_n hx hb (show decode code 267 = .ok (.aload_n 0, 1) by decide +kernel) rfl (lv_at hl 0 rfl) ?_
  refine lv_iload_n hx hb (show decode code 268 = .ok (.iload_n 3, 1) by decide +kernel) rfl (lv_at hl 3 rfl) ?_
  refine lv_iconst (v := 2) hx hb (show decode code 269 = .ok (.iconst 2, 1) by decide +kernel) (by decide) ?_
  refine lv_iadd hx hb (show decode code 270 = .ok (.iadd, 1) by decide +kernel) ?_
  refine va_sld hx hb hX hbl hbA hS h2 (show decode code 271 = .ok (.iaload, 1) by decide +kernel) ?_
  refine lv_aload_n hx hb (show decode code 272 = .ok (.aload_n 0, 1) by decide +kernel) rfl (lv_at hl 0 rfl) ?_
  refine lv_iload_n hx hb (show decode code 273 = .ok (.iload_n 3, 1) by decide +kernel) rfl (lv_at hl 3 rfl) ?_
  refine lv_iconst (v := 3) hx hb (show decode code 274 = .ok (.iconst 3, 1) by decide +kernel) (by decide) ?_
  refine lv_iadd hx hb (show decode code 275 = .ok (.iadd, 1) by decide +kernel) ?_
  refine va_sld hx hb hX hbl hbA hS h3 (show decode code 276 = .ok (.iaload, 1) by decide +kernel) ?_
  refine lw_call (κ := κ) (ad := aX) (W2 := (aW ids aM κM σM)) (P' := pX11_street) (d' := 2) (c0 := 11) (n := 0) (k := 0) [aI (xs (i + 1).toNatClampNeg), aI (xs (i + 2).toNatClampNeg), aI (xs (i + 3).toNatClampNeg)] [] hx hb hml hl.1 hown hts hcs hK rX oX (List.forall_mem_cons.mpr ⟨okv_of k0 (by decide), List.forall_mem_cons.mpr ⟨trivial, List.forall_mem_cons.mpr ⟨trivial, List.forall_mem_cons.mpr ⟨trivial, (fun _ hn => absurd hn List.not_mem_nil)⟩⟩⟩⟩) wX wM dX ap hS hA xX okp_X11_street (show decode code 277 = .ok (.invokevirtual 18, 3) by decide +kernel) (List.mem_filter.mp ml_RL_18).1 vok_X11_street (by decide) rfl nar_X11_street ⟨rfl, rfl⟩ (Nat.le_of_ble_eq_true rfl) (ok_X11_street fX) (fun o1 _ H1 locs1 v1 v2 hS => ?_)
  clear wX wM oX
  have wX := v1
  have wM := v2
  have oX := o1
  have dX := aW_D (σ' := σX1) dX
  have ap := apart2.left (σ' := σX1) ap
  refine lv_aload_n hx hb (show decode code 280 = .ok (.aload_n 2, 1) by decide +kernel) rfl (lv_at hl 2 rfl) ?_
  refine lv_aload_n hx hb (show decode code 281 = .ok (.aload_n 0, 1) by decide +kernel) rfl (lv_at hl 0 rfl) ?_
  refine lv_iload_n hx hb (show decode code 282 = .ok (.iload_n 3, 1) by decide +kernel) rfl (lv_at hl 3 rfl) ?_
  refine lv_iconst (v := 1) hx hb (show decode code 283 = .ok (.iconst 1, 1) by decide +kernel) (by decide) ?_
  refine lv_iadd hx hb (show decode code 284 = .ok (.iadd, 1) by decide +kernel) ?_
  refine va_sld hx hb hX hbl hbA hS h1 (show decode code 285 = .ok (.iaload, 1) by decide +kernel) ?_
  refine lv_aload_n hx hb (show decode code 286 = .ok (.aload_n 0, 1) by decide +kernel) rfl (lv_at hl 0 rfl) ?_
  refine lv_iload_n hx hb (show decode code 287 = .ok (.iload_n 3, 1) by decide +kernel) rfl (lv_at hl 3 rfl) ?_
  refine lv_iconst (v := 2) hx hb (show decode code 288 = .ok (.iconst 2, 1) by decide +kernel) (by decide) ?_
  refine lv_iadd hx hb (show decode code 289 = .ok (.iadd, 1) by decide +kernel) ?_
  refine va_sld hx hb hX hbl hbA hS h2 (show decode code 290 = .ok (.iaload, 1) by decide +kernel) ?_
  refine lv_aload_n hx hb (show decode code 291 = .ok (.aload_n 0, 1) by decide +kernel) rfl (lv_at hl 0 rfl) ?_
  refine lv_iload_n hx hb (show decode code 292 = .ok (.iload_n 3, 1) by decide +kernel) rfl (lv_at hl 3 rfl) ?_
  refine lv_iconst (v := 3) hx hb (show decode code 293 = .ok (.iconst 3, 1) by decide +kernel) (by decide) ?_
  refine lv_iadd hx hb (show decode code 294 = .ok (.iadd, 1) by decide +kernel) ?_
  refine va_sld hx hb hX hbl hbA hS h3 (show decode code 295 = .ok (.iaload, 1) by decide +kernel) ?_
  refine lw_call (κ := κM) (ad := aM) (W2 := (aW ids aX κ σX1)) (P' := pX12_street) (d' := 3) (c0 := 12) (n := 0) (k := 0) [aI (xs (i + 1).toNatClampNeg), aI (xs (i + 2).toNatClampNeg), aI (xs (i + 3).toNatClampNeg)] [.int r] hx hb hml hl.1 hown hts hcs hK regM oM (List.forall_mem_cons.mpr ⟨okv_of rfl (by decide), List.forall_mem_cons.mpr ⟨trivial, List.forall_mem_cons.mpr ⟨trivial, List.forall_mem_cons.mpr ⟨trivial, (fun _ hn => absurd hn List.not_mem_nil)⟩⟩⟩⟩) wM wX dM ap.symm hS hA xM okp_X12_street (show decode code 296 = .ok (.invokevirtual 22, 3) by decide +kernel) (List.mem_filter.mp ml_RL_22).1 vok_X12_street (by decide) rfl nar_X12_street ⟨rfl, rfl⟩ (Nat.le_of_ble_eq_true rfl) (ok_X12_street fM) (fun o1 _ H1 locs1 v1 v2 hS => ?_)
  clear wX wM oM
  have wM := v1
  have wX := v2
  have oM := o1
  have dM := aW_D (σ' := σM1) dM
  have ap := (apart2.left (σ' := σM1) ap.symm).symm
  refine lv_icmp_eq (tgt := 1441) hx hb (show decode code 299 = .ok (.if_icmp .eq 1142, 3) by decide +kernel) (by decide) (fun _ => ?_) (fun z => absurd rfl z)
  exact kk _ _ ⟨wX, wM, dX, dM, ap, hS, xX, xM, rX, oX, oM, k0⟩
set_option maxRecDepth 100000 in
set_option maxHeartbeats 4000000 in
theorem lwc_2 {p : Program} {l : Launch} {e : Env} {s : State} {m : MethodId} {args : Array Value} {below : List Frame} {meth : Method} {c : Code} {D : va_G} {ids : Ids} {A : Nat → Prop} {b L : Nat} {xs : Nat → Int32} (C : LC p s m args c D ids A b L xs) {aX aM : Nat → Nat} {κ : Kd} {σX σM : Sg} {H : Heap} {locs : List Loc} (B : LW s D ids A aX aM κ σX σM H locs) {cells slots : Nat} (hcs : cells ≤ room_1.cells ∧ slots ≤ room_1.slots) {ls : Array Slot} {i : Int32} (hl : lv_has ls 4 [(0, .ref b), (1, .ref (aX 0)), (2, .ref (aM 0)), (3, .int i)]) (h1 : vp_in (i + 1) L) (h2 : vp_in (i + 2) L) (h3 : vp_in (i + 3) L) (h4 : vp_in (i + 4) L) (h5 : vp_in (i + 5) L) {Q : State → Prop} {r : Int32} {σX1 σM1 : Sg} (fX : f_X11_feed (xs (ix (i + 1))) (xs (ix (i + 2))) (xs (ix (i + 3))) (xs (ix (i + 4))) (xs (ix (i + 5))) σX = some (r, σX1)) (fM : f_X12_feed (xs (ix (i + 1))) (xs (ix (i + 2))) (xs (ix (i + 3))) (xs (ix (i + 4))) (xs (ix (i + 5))) σM = some (r, σM1)) (kk : ∀ (H1 : Heap) (locs1 : List Loc), LW s D ids A aX aM κ σX1 σM1 H1 locs1 → W p l e room_1 s m args below meth c H1 locs1 cells slots Q (F0 m 1441 ls [])) : W p l e room_1 s m args below meth c H locs cells slots Q (F0 m 304 ls []) := by
  obtain ⟨hx, hb, hml, hown, hts, hK, hA, hX, hbl, hbA⟩ := C
  obtain ⟨wX, wM, dX, dM, ap, hS, xX, xM, rX, oX, oM, k0⟩ := B
  unfold ix at fX fM
  refine lv_aload_n hx hb (show decode code 304 = .ok (.aload_n 1, 1) by decide +kernel) rfl (lv_at hl 1 rfl) ?_
  refine lv_aload_n hx hb (show decode code 305 = .ok (.aload_n 0, 1) by decide +kernel) rfl (lv_at hl 0 rfl) ?_
  refine lv_iload_n hx hb (show decode code 306 = .ok (.iload_n 3, 1) by decide +kernel) rfl (lv_at hl 3 rfl) ?_
  refine lv_iconst (v := 1) hx hb (show decode code 307 = .ok (.iconst 1, 1) by decide +kernel) (by decide) ?_
  refine lv_iadd hx hb (show decode code 308 = .ok (.iadd, 1) by decide +kernel) ?_
  refine va_sld hx hb hX hbl hbA hS h1 (show decode code 309 = .ok (.iaload, 1) by decide +kernel) ?_
  refine lv_aload_n hx hb (show decode code 310 = .ok (.aload_n 0, 1) by decide +kernel) rfl (lv_at hl 0 rfl) ?_
  refine lv_iload_n hx hb (show decode code 311 = .ok (.iload_n 3, 1) by decide +kernel) rfl (lv_at hl 3 rfl) ?_
  refine lv_iconst (v := 2) hx hb (show decode code 312 = .ok (.iconst 2, 1) by decide +kernel) (by decide) ?_
  refine lv_iadd hx hb (show decode code 313 = .ok (.iadd, 1) by decide +kernel) ?_
  refine va_sld hx hb hX hbl hbA hS h2 (show decode code 314 = .ok (.iaload, 1) by decide +kernel) ?_
  refine lv_aload_n hx hb (show decode code 315 = .ok (.aload_n 0, 1) by decide +kernel) rfl (lv_at hl 0 rfl) ?_
  refine lv_iload_n hx hb (show decode code 316 = .ok (.iload_n 3, 1) by decide +kernel) rfl (lv_at hl 3 rfl) ?_
  refine lv_iconst (v := 3) hx hb (show decode code 317 = .ok (.iconst 3, 1) by decide +kernel) (by decide) ?_
  refine lv_iadd hx hb (show decode code 318 = .ok (.iadd, 1) by decide +kernel) ?_
  refine va_sld hx hb hX hbl hbA hS h3 (show decode code 319 = .ok (.iaload, 1) by decide +kernel) ?_
  refine lv_aload_n hx hb (show decode code 320 = .ok (.aload_n 0, 1) by decide +kernel) rfl (lv_at hl 0 rfl) ?_
  refine lv_iload_n hx hb (show decode code 321 = .ok (.iload_n 3, 1) by decide +kernel) rfl (lv_at hl 3 rfl) ?_
  refine lv_iconst (v := 4) hx hb (show decode code 322 = .ok (.iconst 4, 1) by decide +kernel) (by decide) ?_
  refine lv_iadd hx hb (show decode code 323 = .ok (.iadd, 1) by decide +kernel) ?_
  refine va_sld hx hb hX hbl hbA hS h4 (show decode code 324 = .ok (.iaload, 1) by decide +kernel) ?_
  refine lv_aload_n hx hb (show decode code 325 = .ok (.aload_n 0, 1) by decide +kernel) rfl (lv_at hl 0 rfl) ?_
  refine lv_iload_n hx hb (show decode code 326 = .ok (.iload_n 3, 1) by decide +kernel) rfl (lv_at hl 3 rfl) ?_
  refine lv_iconst (v := 5) hx hb (show decode code 327 = .ok (.iconst 5, 1) by decide +kernel) (by decide) ?_
  refine lv_iadd hx hb (show decode code 328 = .ok (.iadd, 1) by decide +kernel) ?_
  refine va_sld hx hb hX hbl hbA hS h5 (show decode code 329 = .ok (.iaload, 1) by decide +kernel) ?_
  refine lw_call (κ := κ) (ad := aX) (W2 := (aW ids aM κM σM)) (P' := pX11_feed) (d' := 2) (c0 := 11) (n := 0) (k := 0) [aI (xs (i + 1).toNatClampNeg), aI (xs (i + 2).toNatClampNeg), aI (xs (i + 3).toNatClampNeg), aI (xs (i + 4).toNatClampNeg), aI (xs (i + 5).toNatClampNeg)] [] hx hb hml hl.1 hown hts hcs hK rX oX (List.forall_mem_cons.mpr ⟨okv_of k0 (by decide), List.forall_mem_cons.mpr ⟨trivial, List.forall_mem_cons.mpr ⟨trivial, List.forall_mem_cons.mpr ⟨trivial, List.forall_mem_cons.mpr ⟨trivial, List.forall_mem_cons.mpr ⟨trivial, (fun _ hn => absurd hn List.not_mem_nil)⟩⟩⟩⟩⟩⟩) wX wM dX ap hS hA xX okp_X11_feed (show decode code 330 = .ok (.invokevirtual 23, 3) by decide +kernel) (List.mem_filter.mp ml_RL_23).1 vok_X11_feed (by decide) rfl nar_X11_feed ⟨rfl, rfl⟩ (Nat.le_of_ble_eq_true rfl) (ok_X11_feed fX) (fun o1 _ H1 locs1 v1 v2 hS => ?_)
  clear wX wM oX
  have wX := v1
  have wM := v2
  have oX := o1
  have dX := aW_D (σ' := σX1) dX
  have ap := apart2.left (σ' := σX1) ap
  refine lv_aload_n hx hb (show decode code 333 = .ok (.aload_n 2, 1) by decide +kernel) rfl (lv_at hl 2 rfl) ?_
  refine lv_aload_n hx hb (show decode code 334 = .ok (.aload_n 0, 1) by decide +kernel) rfl (lv_at hl 0 rfl) ?_
  refine lv_iload_n hx hb (show decode code 335 = .ok (.iload_n 3, 1) by decide +kernel) rfl (lv_at hl 3 rfl) ?_
  refine lv_iconst (v := 1) hx hb (show decode code 336 = .ok (.iconst 1, 1) by decide +kernel) (by decide) ?_
  refine lv_iadd hx hb (show decode code 337 = .ok (.iadd, 1) by decide +kernel) ?_
  refine va_sld hx hb hX hbl hbA hS h1 (show decode code 338 = .ok (.iaload, 1) by decide +kernel) ?_
  refine lv_aload_n hx hb (show decode code 339 = .ok (.aload_n 0, 1) by decide +kernel) rfl (lv_at hl 0 rfl) ?_
  refine lv_iload_n hx hb (show decode code 340 = .ok (.iload_n 3, 1) by decide +kernel) rfl (lv_at hl 3 rfl) ?_
  refine lv_iconst (v := 2) hx hb (show decode code 341 = .ok (.iconst 2, 1) by decide +kernel) (by decide) ?_
  refine lv_iadd hx hb (show decode code 342 = .ok (.iadd, 1) by decide +kernel) ?_
  refine va_sld hx hb hX hbl hbA hS h2 (show decode code 343 = .ok (.iaload, 1) by decide +kernel) ?_
  refine lv_aload_n hx hb (show decode code 344 = .ok (.aload_n 0, 1) by decide +kernel) rfl (lv_at hl 0 rfl) ?_
  refine lv_iload_n hx hb (show decode code 345 = .ok (.iload_n 3, 1) by decide +kernel) rfl (lv_at hl 3 rfl) ?_
  refine lv_iconst (v := 3) hx hb (show decode code 346 = .ok (.iconst 3, 1) by decide +kernel) (by decide) ?_
  refine lv_iadd hx hb (show decode code 347 = .ok (.iadd, 1) by decide +kernel) ?_
  refine va_sld hx hb hX hbl hbA hS h3 (show decode code 348 = .ok (.iaload, 1) by decide +kernel) ?_
  refine lv_aload_n hx hb (show decode code 349 = .ok (.aload_n 0, 1) by decide +kernel) rfl (lv_at hl 0 rfl) ?_
  refine lv_iload_n hx hb (show decode code 350 = .ok (.iload_n 3, 1) by decide +kernel) rfl (lv_at hl 3 rfl) ?_
  refine lv_iconst (v := 4) hx hb (show decode code 351 = .ok (.iconst 4, 1) by decide +kernel) (by decide) ?_
  refine lv_iadd hx hb (show decode code 352 = .ok (.iadd, 1) by decide +kernel) ?_
  refine va_sld hx hb hX hbl hbA hS h4 (show decode code 353 = .ok (.iaload, 1) by decide +kernel) ?_
  refine lv_aload_n hx hb (show decode code 354 = .ok (.aload_n 0, 1) by decide +kernel) rfl (lv_at hl 0 rfl) ?_
  refine lv_iload_n hx hb (show decode code 355 = .ok (.iload_n 3, 1) by decide +kernel) rfl (lv_at hl 3 rfl) ?_
  refine lv_iconst (v := 5) hx hb (show decode code 356 = .ok (.iconst 5, 1) by decide +kernel) (by decide) ?_
  refine lv_iadd hx hb (show decode code 357 = .ok (.iadd, 1) by decide +kernel) ?_
  refine va_sld hx hb hX hbl hbA hS h5 (show decode code 358 = .ok (.iaload, 1) by decide +kernel) ?_
  refine lw_call (κ := κM) (ad := aM) (W2 := (aW ids aX κ σX1)) (P' := pX12_feed) (d' := 2) (c0 := 12) (n := 0) (k := 0) [aI (xs (i + 1).toNatClampNeg), aI (xs (i + 2).toNatClampNeg), aI (xs (i + 3).toNatClampNeg), aI (xs (i + 4).toNatClampNeg), aI (xs (i + 5).toNatClampNeg)] [.int r] hx hb hml hl.1 hown hts hcs hK regM oM (List.forall_mem_cons.mpr ⟨okv_of rfl (by decide), List.forall_mem_cons.mpr ⟨trivial, List.forall_mem_cons.mpr ⟨trivial, List.forall_mem_cons.mpr ⟨trivial, List.forall_mem_cons.mpr ⟨trivial, List.forall_mem_cons.mpr ⟨trivial, (fun _ hn => absurd hn List.not_mem_nil)⟩⟩⟩⟩⟩⟩) wM wX dM ap.symm hS hA xM okp_X12_feed (show decode code 359 = .ok (.invokevirtual 27, 3) by decide +kernel) (List.mem_filter.mp ml_RL_27).1 vok_X12_feed (by decide) rfl nar_X12_feed ⟨rfl, rfl⟩ (Nat.le_of_ble_eq_true rfl) (ok_X12_feed fM) (fun o1 _ H1 locs1 v1 v2 hS => ?_)
  clear wX wM oM
  have wM := v1
  have wX := v2
  have oM := o1
  have dM := aW_D (σ' := σM1) dM
  have ap := (apart2.left (σ' := σM1) ap.symm).symm
  refine lv_icmp_eq (tgt := 1441) hx hb (show decode code 362 = .ok (.if_icmp .eq 1079, 3) by decide +kernel) (by decide) (fun _ => ?_) (fun z => absurd rfl z)
  exact kk _ _ ⟨wX, wM, dX, dM, ap, hS, xX, xM, rX, oX, oM, k0⟩
set_option maxRecDepth 100000 in
set_option maxHeartbeats 4000000 in
theorem lwc_3 {p : Program} {l : Launch} {e : Env} {s : State} {m : MethodId} {args : Array Value} {below : List Frame} {meth : Method} {c : Code} {D : va_G} {ids : Ids} {A : Nat → Prop} {b L : Nat} {xs : Nat → Int32} (C : LC p s m args c D ids A b L xs) {aX aM : Nat → Nat} {κ : Kd} {σX σM : Sg} {H : Heap} {locs : List Loc} (B : LW s D ids A aX aM κ σX σM H locs) {cells slots : Nat} (hcs : cells ≤ room_1.cells ∧ slots ≤ room_1.slots) {ls : Array Slot} {i : Int32} (hl : lv_has ls 4 [(0, .ref b), (1, .ref (aX 0)), (2, .ref (aM 0)), (3, .int i)]) (h1 : vp_in (i + 1) L) {Q : State → Prop} {r : Int32} {σX1 σM1 : Sg} (fX : f_X11_end (xs (ix (i + 1))) σX = some (r, σX1)) (fM : f_X12_end (xs (ix (i + 1))) σM = some (r, σM1)) (kk : ∀ (H1 : Heap) (locs1 : List Loc), LW s D ids A aX aM κ σX1 σM1 H1 locs1 → W p l e room_1 s m args below meth c H1 locs1 cells slots Q (F0 m 1441 ls [])) : W p l e room_1 s m args below meth c H locs cells slots Q (F0 m 367 ls []) := by
  obtain ⟨hx, hb, hml, hown, hts, hK, hA, hX, hbl, hbA⟩ := C
  obtain ⟨wX, wM, dX, dM, ap, hS, xX, xM, rX, oX, oM, k0⟩ := B
  unfold ix at fX fM
  refine lv_aload_n hx hb (show decode code 367 = .ok (.aload_n 1, 1) by decide +kernel) rfl (lv_at hl 1 rfl) ?_
  refine lv_aload_n hx hb (show decode code 368 = .ok (.aload_n 0, 1) by decide +kernel) rfl (lv_at hl 0 rfl) ?_
  refine lv_iload_n hx hb (show decode code 369 = .ok (.iload_n 3, 1) by decide +kernel) rfl (lv_at hl 3 rfl) ?_
  refine lv_iconst (v := 1) hx hb (show decode code 370 = .ok (.iconst 1, 1) by decide +kernel) (by decide) ?_
  refine lv_iadd hx hb (show decode code 371 = .ok (.iadd, 1) by decide +kernel) ?_
  refine va_sld hx hb hX hbl hbA hS h1 (show decode code 372 = .ok (.iaload, 1) by decide +kernel) ?_
  refine lw_call (κ := κ) (ad := aX) (W2 := (aW ids aM κM σM)) (P' := pX11_end) (d' := 2) (c0 := 11) (n := 0) (k := 0) [aI (xs (i + 1).toNatClampNeg)] [] hx hb hml hl.1 hown hts hcs hK rX oX (List.forall_mem_cons.mpr ⟨okv_of k0 (by decide), List.forall_mem_cons.mpr ⟨trivial, (fun _ hn => absurd hn List.not_mem_nil)⟩⟩) wX wM dX ap hS hA xX okp_X11_end (show decode code 373 = .ok (.invokevirtual 28, 3) by decide +kernel) (List.mem_filter.mp ml_RL_28).1 vok_X11_end (by decide) rfl nar_X11_end ⟨rfl, rfl⟩ (Nat.le_of_ble_eq_true rfl) (ok_X11_end fX) (fun o1 _ H1 locs1 v1 v2 hS => ?_)
  clear wX wM oX
  have wX := v1
  have wM := v2
  have oX := o1
  have dX := aW_D (σ' := σX1) dX
  have ap := apart2.left (σ' := σX1) ap
  refine lv_aload_n hx hb (show decode code 376 = .ok (.aload_n 2, 1) by decide +kernel) rfl (lv_at hl 2 rfl) ?_
  refine lv_aload_n hx hb (show decode code 377 = .ok (.aload_n 0, 1) by decide +kernel) rfl (lv_at hl 0 rfl) ?_
  refine lv_iload_n hx hb (show decode code 378 = .ok (.iload_n 3, 1) by decide +kernel) rfl (lv_at hl 3 rfl) ?_
  refine lv_iconst (v := 1) hx hb (show decode code 379 = .ok (.iconst 1, 1) by decide +kernel) (by decide) ?_
  refine lv_iadd hx hb (show decode code 380 = .ok (.iadd, 1) by decide +kernel) ?_
  refine va_sld hx hb hX hbl hbA hS h1 (show decode code 381 = .ok (.iaload, 1) by decide +kernel) ?_
  refine lw_call (κ := κM) (ad := aM) (W2 := (aW ids aX κ σX1)) (P' := pX12_end) (d' := 2) (c0 := 12) (n := 0) (k := 0) [aI (xs (i + 1).toNatClampNeg)] [.int r] hx hb hml hl.1 hown hts hcs hK regM oM (List.forall_mem_cons.mpr ⟨okv_of rfl (by decide), List.forall_mem_cons.mpr ⟨trivial, (fun _ hn => absurd hn List.not_mem_nil)⟩⟩) wM wX dM ap.symm hS hA xM okp_X12_end (show decode code 382 = .ok (.invokevirtual 32, 3) by decide +kernel) (List.mem_filter.mp ml_RL_32).1 vok_X12_end (by decide) rfl nar_X12_end ⟨rfl, rfl⟩ (Nat.le_of_ble_eq_true rfl) (ok_X12_end fM) (fun o1 _ H1 locs1 v1 v2 hS => ?_)
  clear wX wM oM
  have wM := v1
  have wX := v2
  have oM := o1
  have dM := aW_D (σ' := σM1) dM
  have ap := (apart2.left (σ' := σM1) ap.symm).symm
  refine lv_icmp_eq (tgt := 1441) hx hb (show decode code 385 = .ok (.if_icmp .eq 1056, 3) by decide +kernel) (by decide) (fun _ => ?_) (fun z => absurd rfl z)
  exact kk _ _ ⟨wX, wM, dX, dM, ap, hS, xX, xM, rX, oX, oM, k0⟩
set_option maxRecDepth 100000 in
set_option maxHeartbeats 4000000 in
theorem lwc_5 {p : Program} {l : Launch} {e : Env} {s : State} {m : MethodId} {args : Array Value} {below : List Frame} {meth : Method} {c : Code} {D : va_G} {ids : Ids} {A : Nat → Prop} {b L : Nat} {xs : Nat → Int32} (C : LC p s m args c D ids A b L xs) {aX aM : Nat → Nat} {κ : Kd} {σX σM : Sg} {H : Heap} {locs : List Loc} (B : LW s D ids A aX aM κ σX σM H locs) {cells slots : Nat} (hcs : cells ≤ room_1.cells ∧ slots ≤ room_1.slots) {ls : Array Slot} {i : Int32} (hl : lv_has ls 4 [(0, .ref b), (1, .ref (aX 0)), (2, .ref (aM 0)), (3, .int i)]) (h1 : vp_in (i + 1) L) {Q : State → Prop} {r : Int32} {σX1 σM1 : Sg} (fX : f_X11_fault (xs (ix (i + 1))) σX = some (r, σX1)) (fM : f_X12_fault (xs (ix (i + 1))) σM = some (r, σM1)) (kk : ∀ (H1 : Heap) (locs1 : List Loc), LW s D ids A aX aM κ σX1 σM1 H1 locs1 → W p l e room_1 s m args below meth c H1 locs1 cells slots Q (F0 m 1441 ls [])) : W p l e room_1 s m args below meth c H locs cells slots Q (F0 m 403 ls []) := by
  obtain ⟨hx, hb, hml, hown, hts, hK, hA, hX, hbl, hbA⟩ := C
  obtain ⟨wX, wM, dX, dM, ap, hS, xX, xM, rX, oX, oM, k0⟩ := B
  unfold ix at fX fM
  refine lv_aload_n hx hb (show decode code 403 = .ok (.aload_n 1, 1) by decide +kernel) rfl (lv_at hl 1 rfl) ?_
  refine lv_aload_n hx hb (show decode code 404 = .ok (.aload_n 0, 1) by decide +kernel) rfl (lv_at hl 0 rfl) ?_
  refine lv_iload_n hx hb (show decode code 405 = .ok (.iload_n 3, 1) by decide +kernel) rfl (lv_at hl 3 rfl) ?_
  refine lv_iconst (v := 1) hx hb (show decode code 406 = .ok (.iconst 1, 1) by decide +kernel) (by decide) ?_
  refine lv_iadd hx hb (show decode code 407 = .ok (.iadd, 1) by decide +kernel) ?_
  refine va_sld hx hb hX hbl hbA hS h1 (show decode code 408 = .ok (.iaload, 1) by decide +kernel) ?_
  refine lw_call (κ := κ) (ad := aX) (W2 := (aW ids aM κM σM)) (P' := pX11_fault) (d' := 2) (c0 := 11) (n := 0) (k := 0) [aI (xs (i + 1).toNatClampNeg)] [] hx hb hml hl.1 hown hts hcs hK rX oX (List.forall_mem_cons.mpr ⟨okv_of k0 (by decide), List.forall_mem_cons.mpr ⟨trivial, (fun _ hn => absurd hn List.not_mem_nil)⟩⟩) wX wM dX ap hS hA xX okp_X11_fault (show decode code 409 = .ok (.invokevirtual 38, 3) by decide +kernel) (List.mem_filter.mp ml_RL_38).1 vok_X11_fault (by decide) rfl nar_X11_fault ⟨rfl, rfl⟩ (Nat.le_of_ble_eq_true rfl) (ok_X11_fault fX) (fun o1 _ H1 locs1 v1 v2 hS => ?_)
  clear wX wM oX
  have wX := v1
  have wM := v2
  have oX := o1
  have dX := aW_D (σ' := σX1) dX
  have ap := apart2.left (σ' := σX1) ap
  refine lv_aload_n hx hb (show decode code 412 = .ok (.aload_n 2, 1) by decide +kernel) rfl (lv_at hl 2 rfl) ?_
  refine lv_aload_n hx hb (show decode code 413 = .ok (.aload_n 0, 1) by decide +kernel) rfl (lv_at hl 0 rfl) ?_
  refine lv_iload_n hx hb (show decode code 414 = .ok (.iload_n 3, 1) by decide +kernel) rfl (lv_at hl 3 rfl) ?_
  refine lv_iconst (v := 1) hx hb (show decode code 415 = .ok (.iconst 1, 1) by decide +kernel) (by decide) ?_
  refine lv_iadd hx hb (show decode code 416 = .ok (.iadd, 1) by decide +kernel) ?_
  refine va_sld hx hb hX hbl hbA hS h1 (show decode code 417 = .ok (.iaload, 1) by decide +kernel) ?_
  refine lw_call (κ := κM) (ad := aM) (W2 := (aW ids aX κ σX1)) (P' := pX12_fault) (d' := 1) (c0 := 12) (n := 0) (k := 0) [aI (xs (i + 1).toNatClampNeg)] [.int r] hx hb hml hl.1 hown hts hcs hK regM oM (List.forall_mem_cons.mpr ⟨okv_of rfl (by decide), List.forall_mem_cons.mpr ⟨trivial, (fun _ hn => absurd hn List.not_mem_nil)⟩⟩) wM wX dM ap.symm hS hA xM okp_X12_fault (show decode code 418 = .ok (.invokevirtual 41, 3) by decide +kernel) (List.mem_filter.mp ml_RL_41).1 vok_X12_fault (by decide) rfl nar_X12_fault ⟨rfl, rfl⟩ (Nat.le_of_ble_eq_true rfl) (ok_X12_fault fM) (fun o1 _ H1 locs1 v1 v2 hS => ?_)
  clear wX wM oM
  have wM := v1
  have wX := v2
  have oM := o1
  have dM := aW_D (σ' := σM1) dM
  have ap := (apart2.left (σ' := σM1) ap.symm).symm
  refine lv_icmp_eq (tgt := 1441) hx hb (show decode code 421 = .ok (.if_icmp .eq 1020, 3) by decide +kernel) (by decide) (fun _ => ?_) (fun z => absurd rfl z)
  exact kk _ _ ⟨wX, wM, dX, dM, ap, hS, xX, xM, rX, oX, oM, k0⟩
set_option maxRecDepth 100000 in
set_option maxHeartbeats 4000000 in
theorem lwc_6 {p : Program} {l : Launch} {e : Env} {s : State} {m : MethodId} {args : Array Value} {below : List Frame} {meth : Method} {c : Code} {D : va_G} {ids : Ids} {A : Nat → Prop} {b L : Nat} {xs : Nat → Int32} (C : LC p s m args c D ids A b L xs) {aX aM : Nat → Nat} {κ : Kd} {σX σM : Sg} {H : Heap} {locs : List Loc} (B : LW s D ids A aX aM κ σX σM H locs) {cells slots : Nat} (hcs : cells ≤ room_1.cells ∧ slots ≤ room_1.slots) {ls : Array Slot} {i : Int32} (hl : lv_has ls 4 [(0, .ref b), (1, .ref (aX 0)), (2, .ref (aM 0)), (3, .int i)]) (h1 : vp_in (i + 1) L) {Q : State → Prop} {r : Int32} {σX1 σM1 : Sg} (fX : f_X11_by (xs (ix (i + 1))) σX = some (r, σX1)) (fM : f_X12_by (xs (ix (i + 1))) σM = some (r, σM1)) (kk : ∀ (H1 : Heap) (locs1 : List Loc), LW s D ids A aX aM κ σX1 σM1 H1 locs1 → W p l e room_1 s m args below meth c H1 locs1 cells slots Q (F0 m 1441 ls [])) : W p l e room_1 s m args below meth c H locs cells slots Q (F0 m 426 ls []) := by
  obtain ⟨hx, hb, hml, hown, hts, hK, hA, hX, hbl, hbA⟩ := C
  obtain ⟨wX, wM, dX, dM, ap, hS, xX, xM, rX, oX, oM, k0⟩ := B
  unfold ix at fX fM
  refine lv_aload_n hx hb (show decode code 426 = .ok (.aload_n 1, 1) by decide +kernel) rfl (lv_at hl 1 rfl) ?_
  refine lv_aload_n hx hb (show decode code 427 = .ok (.aload_n 0, 1) by decide +kernel) rfl (lv_at hl 0 rfl) ?_
  refine lv_iload_n hx hb (show decode code 428 = .ok (.iload_n 3, 1) by decide +kernel) rfl (lv_at hl 3 rfl) ?_
  refine lv_iconst (v := 1) hx hb (show decode code 429 = .ok (.iconst 1, 1) by decide +kernel) (by decide) ?_
  refine lv_iadd hx hb (show decode code 430 = .ok (.iadd, 1) by decide +kernel) ?_
  refine va_sld hx hb hX hbl hbA hS h1 (show decode code 431 = .ok (.iaload, 1) by decide +kernel) ?_
  refine lw_call (κ := κ) (ad := aX) (W2 := (aW ids aM κM σM)) (P' := pX11_by) (d' := 2) (c0 := 11) (n := 0) (k := 0) [aI (xs (i + 1).toNatClampNeg)] [] hx hb hml hl.1 hown hts hcs hK rX oX (List.forall_mem_cons.mpr ⟨okv_of k0 (by decide), List.forall_mem_cons.mpr ⟨trivial, (fun _ hn => absurd hn List.not_mem_nil)⟩⟩) wX wM dX ap hS hA xX okp_X11_by (show decode code 432 = .ok (.invokevirtual 42, 3) by decide +kernel) (List.mem_filter.mp ml_RL_42).1 vok_X11_by (by decide) rfl nar_X11_by ⟨rfl, rfl⟩ (Nat.le_of_ble_eq_true rfl) (ok_X11_by fX) (fun o1 _ H1 locs1 v1 v2 hS => ?_)
  clear wX wM oX
  have wX := v1
  have wM := v2
  have oX := o1
  have dX := aW_D (σ' := σX1) dX
  have ap := apart2.left (σ' := σX1) ap
  refine lv_aload_n hx hb (show decode code 435 = .ok (.aload_n 2, 1) by decide +kernel) rfl (lv_at hl 2 rfl) ?_
  refine lv_aload_n hx hb (show decode code 436 = .ok (.aload_n 0, 1) by decide +kernel) rfl (lv_at hl 0 rfl) ?_
  refine lv_iload_n hx hb (show decode code 437 = .ok (.iload_n 3, 1) by decide +kernel) rfl (lv_at hl 3 rfl) ?_
  refine lv_iconst (v := 1) hx hb (show decode code 438 = .ok (.iconst 1, 1) by decide +kernel) (by decide) ?_
  refine lv_iadd hx hb (show decode code 439 = .ok (.iadd, 1) by decide +kernel) ?_
  refine va_sld hx hb hX hbl hbA hS h1 (show decode code 440 = .ok (.iaload, 1) by decide +kernel) ?_
  refine lw_call (κ := κM) (ad := aM) (W2 := (aW ids aX κ σX1)) (P' := pX12_by) (d' := 2) (c0 := 12) (n := 0) (k := 0) [aI (xs (i + 1).toNatClampNeg)] [.int r] hx hb hml hl.1 hown hts hcs hK regM oM (List.forall_mem_cons.mpr ⟨okv_of rfl (by decide), List.forall_mem_cons.mpr ⟨trivial, (fun _ hn => absurd hn List.not_mem_nil)⟩⟩) wM wX dM ap.symm hS hA xM okp_X12_by (show decode code 441 = .ok (.invokevirtual 46, 3) by decide +kernel) (List.mem_filter.mp ml_RL_46).1 vok_X12_by (by decide) rfl nar_X12_by ⟨rfl, rfl⟩ (Nat.le_of_ble_eq_true rfl) (ok_X12_by fM) (fun o1 _ H1 locs1 v1 v2 hS => ?_)
  clear wX wM oM
  have wM := v1
  have wX := v2
  have oM := o1
  have dM := aW_D (σ' := σM1) dM
  have ap := (apart2.left (σ' := σM1) ap.symm).symm
  refine lv_icmp_eq (tgt := 1441) hx hb (show decode code 444 = .ok (.if_icmp .eq 997, 3) by decide +kernel) (by decide) (fun _ => ?_) (fun z => absurd rfl z)
  exact kk _ _ ⟨wX, wM, dX, dM, ap, hS, xX, xM, rX, oX, oM, k0⟩
set_option maxRecDepth 100000 in
set_option maxHeartbeats 4000000 in
theorem lwc_7 {p : Program} {l : Launch} {e : Env} {s : State} {m : MethodId} {args : Array Value} {below : List Frame} {meth : Method} {c : Code} {D : va_G} {ids : Ids} {A : Nat → Prop} {b L : Nat} {xs : Nat → Int32} (C : LC p s m args c D ids A b L xs) {aX aM : Nat → Nat} {κ : Kd} {σX σM : Sg} {H : Heap} {locs : List Loc} (B : LW s D ids A aX aM κ σX σM H locs) {cells slots : Nat} (hcs : cells ≤ room_1.cells ∧ slots ≤ room_1.slots) {ls : Array Slot} {i : Int32} (hl : lv_has ls 4 [(0, .ref b), (1, .ref (aX 0)), (2, .ref (aM 0)), (3, .int i)]) (h1 : vp_in (i + 1) L) {Q : State → Prop} {r : Int32} {σX1 σM1 : Sg} (fX : f_X11_light (xs (ix (i + 1))) σX = some (r, σX1)) (fM : f_X12_light (xs (ix (i + 1))) σM = some (r, σM1)) (kk : ∀ (H1 : Heap) (locs1 : List Loc), LW s D ids A aX aM κ σX1 σM1 H1 locs1 → W p l e room_1 s m args below meth c H1 locs1 cells slots Q (F0 m 1441 ls [])) : W p l e room_1 s m args below meth c H locs cells slots Q (F0 m 449 ls []) := by
  obtain ⟨hx, hb, hml, hown, hts, hK, hA, hX, hbl, hbA⟩ := C
  obtain ⟨wX, wM, dX, dM, ap, hS, xX, xM, rX, oX, oM, k0⟩ := B
  unfold ix at fX fM
  refine lv_aload_n hx hb (show decode code 449 = .ok (.aload_n 1, 1) by decide +kernel) rfl (lv_at hl 1 rfl) ?_
  refine lv_aload_n hx hb (show decode code 450 = .ok (.aload_n 0, 1) by decide +kernel) rfl (lv_at hl 0 rfl) ?_
  refine lv_iload_n hx hb (show decode code 451 = .ok (.iload_n 3, 1) by decide +kernel) rfl (lv_at hl 3 rfl) ?_
  refine lv_iconst (v := 1) hx hb (show decode code 452 = .ok (.iconst 1, 1) by decide +kernel) (by decide) ?_
  refine lv_iadd hx hb (show decode code 453 = .ok (.iadd, 1) by decide +kernel) ?_
  refine va_sld hx hb hX hbl hbA hS h1 (show decode code 454 = .ok (.iaload, 1) by decide +kernel) ?_
  refine lw_call (κ := κ) (ad := aX) (W2 := (aW ids aM κM σM)) (P' := pX11_light) (d' := 5) (c0 := 11) (n := 0) (k := 0) [aI (xs (i + 1).toNatClampNeg)] [] hx hb hml hl.1 hown hts hcs hK rX oX (List.forall_mem_cons.mpr ⟨okv_of k0 (by decide), List.forall_mem_cons.mpr ⟨trivial, (fun _ hn => absurd hn List.not_mem_nil)⟩⟩) wX wM dX ap hS hA xX okp_X11_light (show decode code 455 = .ok (.invokevirtual 47, 3) by decide +kernel) (List.mem_filter.mp ml_RL_47).1 vok_X11_light (by decide) rfl nar_X11_light ⟨rfl, rfl⟩ (Nat.le_of_ble_eq_true rfl) (ok_X11_light fX) (fun o1 _ H1 locs1 v1 v2 hS => ?_)
  clear wX wM oX
  have wX := v1
  have wM := v2
  have oX := o1
  have dX := aW_D (σ' := σX1) dX
  have ap := apart2.left (σ' := σX1) ap
  refine lv_aload_n hx hb (show decode code 458 = .ok (.aload_n 2, 1) by decide +kernel) rfl (lv_at hl 2 rfl) ?_
  refine lv_aload_n hx hb (show decode code 459 = .ok (.aload_n 0, 1) by decide +kernel) rfl (lv_at hl 0 rfl) ?_
  refine lv_iload_n hx hb (show decode code 460 = .ok (.iload_n 3, 1) by decide +kernel) rfl (lv_at hl 3 rfl) ?_
  refine lv_iconst (v := 1) hx hb (show decode code 461 = .ok (.iconst 1, 1) by decide +kernel) (by decide) ?_
  refine lv_iadd hx hb (show decode code 462 = .ok (.iadd, 1) by decide +kernel) ?_
  refine va_sld hx hb hX hbl hbA hS h1 (show decode code 463 = .ok (.iaload, 1) by decide +kernel) ?_
  refine lw_call (κ := κM) (ad := aM) (W2 := (aW ids aX κ σX1)) (P' := pX12_light) (d' := 4) (c0 := 12) (n := 0) (k := 0) [aI (xs (i + 1).toNatClampNeg)] [.int r] hx hb hml hl.1 hown hts hcs hK regM oM (List.forall_mem_cons.mpr ⟨okv_of rfl (by decide), List.forall_mem_cons.mpr ⟨trivial, (fun _ hn => absurd hn List.not_mem_nil)⟩⟩) wM wX dM ap.symm hS hA xM okp_X12_light (show decode code 464 = .ok (.invokevirtual 50, 3) by decide +kernel) (List.mem_filter.mp ml_RL_50).1 vok_X12_light (by decide) rfl nar_X12_light ⟨rfl, rfl⟩ (Nat.le_of_ble_eq_true rfl) (ok_X12_light fM) (fun o1 _ H1 locs1 v1 v2 hS => ?_)
  clear wX wM oM
  have wM := v1
  have wX := v2
  have oM := o1
  have dM := aW_D (σ' := σM1) dM
  have ap := (apart2.left (σ' := σM1) ap.symm).symm
  refine lv_icmp_eq (tgt := 1441) hx hb (show decode code 467 = .ok (.if_icmp .eq 974, 3) by decide +kernel) (by decide) (fun _ => ?_) (fun z => absurd rfl z)
  exact kk _ _ ⟨wX, wM, dX, dM, ap, hS, xX, xM, rX, oX, oM, k0⟩
set_option maxRecDepth 100000 in
set_option maxHeartbeats 4000000 in
theorem lwc_8 {p : Program} {l : Launch} {e : Env} {s : State} {m : MethodId} {args : Array Value} {below : List Frame} {meth : Method} {c : Code} {D : va_G} {ids : Ids} {A : Nat → Prop} {b L : Nat} {xs : Nat → Int32} (C : LC p s m args c D ids A b L xs) {aX aM : Nat → Nat} {κ : Kd} {σX σM : Sg} {H : Heap} {locs : List Loc} (B : LW s D ids A aX aM κ σX σM H locs) {cells slots : Nat} (hcs : cells ≤ room_1.cells ∧ slots ≤ room_1.slots) {ls : Array Slot} {i : Int32} (hl : lv_has ls 4 [(0, .ref b), (1, .ref (aX 0)), (2, .ref (aM 0)), (3, .int i)]) (h1 : vp_in (i + 1) L) {Q : State → Prop} {r : Int32} {σX1 σM1 : Sg} (fX : f_X11_cover (xs (ix (i + 1))) σX = some (r, σX1)) (fM : f_X12_cover (xs (ix (i + 1))) σM = some (r, σM1)) (kk : ∀ (H1 : Heap) (locs1 : List Loc), LW s D ids A aX aM κ σX1 σM1 H1 locs1 → W p l e room_1 s m args below meth c H1 locs1 cells slots Q (F0 m 1441 ls [])) : W p l e room_1 s m args below meth c H locs cells slots Q (F0 m 472 ls []) := by
  obtain ⟨hx, hb, hml, hown, hts, hK, hA, hX, hbl, hbA⟩ := C
  obtain ⟨wX, wM, dX, dM, ap, hS, xX, xM, rX, oX, oM, k0⟩ := B
  unfold ix at fX fM
  refine lv_aload_n hx hb (show decode code 472 = .ok (.aload_n 1, 1) by decide +kernel) rfl (lv_at hl 1 rfl) ?_
  refine lv_aload_n hx hb (show decode code 473 = .ok (.aload_n 0, 1) by decide +kernel) rfl (lv_at hl 0 rfl) ?_
  refine lv_iload_n hx hb (show decode code 474 = .ok (.iload_n 3, 1) by decide +kernel) rfl (lv_at hl 3 rfl) ?_
  refine lv_iconst (v := 1) hx hb (show decode code 475 = .ok (.iconst 1, 1) by decide +kernel) (by decide) ?_
  refine lv_iadd hx hb (show decode code 476 = .ok (.iadd, 1) by decide +kernel) ?_
  refine va_sld hx hb hX hbl hbA hS h1 (show decode code 477 = .ok (.iaload, 1) by decide +kernel) ?_
  refine lw_call (κ := κ) (ad := aX) (W2 := (aW ids aM κM σM)) (P' := pX11_cover) (d' := 5) (c0 := 11) (n := 0) (k := 0) [aI (xs (i + 1).toNatClampNeg)] [] hx hb hml hl.1 hown hts hcs hK rX oX (List.forall_mem_cons.mpr ⟨okv_of k0 (by decide), List.forall_mem_cons.mpr ⟨trivial, (fun _ hn => absurd hn List.not_mem_nil)⟩⟩) wX wM dX ap hS hA xX okp_X11_cover (show decode code 478 = .ok (.invokevirtual 51, 3) by decide +kernel) (List.mem_filter.mp ml_RL_51).1 vok_X11_cover (by decide) rfl nar_X11_cover ⟨rfl, rfl⟩ (Nat.le_of_ble_eq_true rfl) (ok_X11_cover fX) (fun o1 _ H1 locs1 v1 v2 hS => ?_)
  clear wX wM oX
  have wX := v1
  have wM := v2
  have oX := o1
  have dX := aW_D (σ' := σX1) dX
  have ap := apart2.left (σ' := σX1) ap
  refine lv_aload_n hx hb (show decode code 481 = .ok (.aload_n 2, 1) by decide +kernel) rfl (lv_at hl 2 rfl) ?_
  refine lv_aload_n hx hb (show decode code 482 = .ok (.aload_n 0, 1) by decide +kernel) rfl (lv_at hl 0 rfl) ?_
  refine lv_iload_n hx hb (show decode code 483 = .ok (.iload_n 3, 1) by decide +kernel) rfl (lv_at hl 3 rfl) ?_
  refine lv_iconst (v := 1) hx hb (show decode code 484 = .ok (.iconst 1, 1) by decide +kernel) (by decide) ?_
  refine lv_iadd hx hb (show decode code 485 = .ok (.iadd, 1) by decide +kernel) ?_
  refine va_sld hx hb hX hbl hbA hS h1 (show decode code 486 = .ok (.iaload, 1) by decide +kernel) ?_
  refine lw_call (κ := κM) (ad := aM) (W2 := (aW ids aX κ σX1)) (P' := pX12_cover) (d' := 5) (c0 := 12) (n := 0) (k := 0) [aI (xs (i + 1).toNatClampNeg)] [.int r] hx hb hml hl.1 hown hts hcs hK regM oM (List.forall_mem_cons.mpr ⟨okv_of rfl (by decide), List.forall_mem_cons.mpr ⟨trivial, (fun _ hn => absurd hn List.not_mem_nil)⟩⟩) wM wX dM ap.symm hS hA xM okp_X12_cover (show decode code 487 = .ok (.invokevirtual 54, 3) by decide +kernel) (List.mem_filter.mp ml_RL_54).1 vok_X12_cover (by decide) rfl nar_X12_cover ⟨rfl, rfl⟩ (Nat.le_of_ble_eq_true rfl) (ok_X12_cover fM) (fun o1 _ H1 locs1 v1 v2 hS => ?_)
  clear wX wM oM
  have wM := v1
  have wX := v2
  have oM := o1
  have dM := aW_D (σ' := σM1) dM
  have ap := (apart2.left (σ' := σM1) ap.symm).symm
  refine lv_icmp_eq (tgt := 1441) hx hb (show decode code 490 = .ok (.if_icmp .eq 951, 3) by decide +kernel) (by decide) (fun _ => ?_) (fun z => absurd rfl z)
  exact kk _ _ ⟨wX, wM, dX, dM, ap, hS, xX, xM, rX, oX, oM, k0⟩
set_option maxRecDepth 100000 in
set_option maxHeartbeats 4000000 in
theorem lwc_9 {p : Program} {l : Launch} {e : Env} {s : State} {m : MethodId} {args : Array Value} {below : List Frame} {meth : Method} {c : Code} {D : va_G} {ids : Ids} {A : Nat → Prop} {b L : Nat} {xs : Nat → Int32} (C : LC p s m args c D ids A b L xs) {aX aM : Nat → Nat} {κ : Kd} {σX σM : Sg} {H : Heap} {locs : List Loc} (B : LW s D ids A aX aM κ σX σM H locs) {cells slots : Nat} (hcs : cells ≤ room_1.cells ∧ slots ≤ room_1.slots) {ls : Array Slot} {i : Int32} (hl : lv_has ls 4 [(0, .ref b), (1, .ref (aX 0)), (2, .ref (aM 0)), (3, .int i)]) (h1 : vp_in (i + 1) L) {Q : State → Prop} {r : Int32} {σX1 σM1 : Sg} (fX : f_X11_open (xs (ix (i + 1))) σX = some (r, σX1)) (fM : f_X12_open (xs (ix (i + 1))) σM = some (r, σM1)) (kk : ∀ (H1 : Heap) (locs1 : List Loc), LW s D ids A aX aM κ σX1 σM1 H1 locs1 → W p l e room_1 s m args below meth c H1 locs1 cells slots Q (F0 m 1441 ls [])) : W p l e room_1 s m args below meth c H locs cells slots Q (F0 m 495 ls []) := by
  obtain ⟨hx, hb, hml, hown, hts, hK, hA, hX, hbl, hbA⟩ := C
  obtain ⟨wX, wM, dX, dM, ap, hS, xX, xM, rX, oX, oM, k0⟩ := B
  unfold ix at fX fM
  refine lv_aload_n hx hb (show decode code 495 = .ok (.aload_n 1, 1) by decide +kernel) rfl (lv_at hl 1 rfl) ?_
  refine lv_aload_n hx hb (show decode code 496 = .ok (.aload_n 0, 1) by decide +kernel) rfl (lv_at hl 0 rfl) ?_
  refine lv_iload_n hx hb (show decode code 497 = .ok (.iload_n 3, 1) by decide +kernel) rfl (lv_at hl 3 rfl) ?_
  refine lv_iconst (v := 1) hx hb (show decode code 498 = .ok (.iconst 1, 1) by decide +kernel) (by decide) ?_
  refine lv_iadd hx hb (show decode code 499 = .ok (.iadd, 1) by decide +kernel) ?_
  refine va_sld hx hb hX hbl hbA hS h1 (show decode code 500 = .ok (.iaload, 1) by decide +kernel) ?_
  refine lw_call (κ := κ) (ad := aX) (W2 := (aW ids aM κM σM)) (P' := pX11_open) (d' := 5) (c0 := 11) (n := 0) (k := 0) [aI (xs (i + 1).toNatClampNeg)] [] hx hb hml hl.1 hown hts hcs hK rX oX (List.forall_mem_cons.mpr ⟨okv_of k0 (by decide), List.forall_mem_cons.mpr ⟨trivial, (fun _ hn => absurd hn List.not_mem_nil)⟩⟩) wX wM dX ap hS hA xX okp_X11_open (show decode code 501 = .ok (.invokevirtual 55, 3) by decide +kernel) (List.mem_filter.mp ml_RL_55).1 vok_X11_open (by decide) rfl nar_X11_open ⟨rfl, rfl⟩ (Nat.le_of_ble_eq_true rfl) (ok_X11_open fX) (fun o1 _ H1 locs1 v1 v2 hS => ?_)
  clear wX wM oX
  have wX := v1
  have wM := v2
  have oX := o1
  have dX := aW_D (σ' := σX1) dX
  have ap := apart2.left (σ' := σX1) ap
  refine lv_aload_n hx hb (show decode code 504 = .ok (.aload_n 2, 1) by decide +kernel) rfl (lv_at hl 2 rfl) ?_
  refine lv_aload_n hx hb (show decode code 505 = .ok (.aload_n 0, 1) by decide +kernel) rfl (lv_at hl 0 rfl) ?_
  refine lv_iload_n hx hb (show decode code 506 = .ok (.iload_n 3, 1) by decide +kernel) rfl (lv_at hl 3 rfl) ?_
  refine lv_iconst (v := 1) hx hb (show decode code 507 = .ok (.iconst 1, 1) by decide +kernel) (by decide) ?_
  refine lv_iadd hx hb (show decode code 508 = .ok (.iadd, 1) by decide +kernel) ?_
  refine va_sld hx hb hX hbl hbA hS h1 (show decode code 509 = .ok (.iaload, 1) by decide +kernel) ?_
  refine lw_call (κ := κM) (ad := aM) (W2 := (aW ids aX κ σX1)) (P' := pX12_open) (d' := 5) (c0 := 12) (n := 0) (k := 0) [aI (xs (i + 1).toNatClampNeg)] [.int r] hx hb hml hl.1 hown hts hcs hK regM oM (List.forall_mem_cons.mpr ⟨okv_of rfl (by decide), List.forall_mem_cons.mpr ⟨trivial, (fun _ hn => absurd hn List.not_mem_nil)⟩⟩) wM wX dM ap.symm hS hA xM okp_X12_open (show decode code 510 = .ok (.invokevirtual 58, 3) by decide +kernel) (List.mem_filter.mp ml_RL_58).1 vok_X12_open (by decide) rfl nar_X12_open ⟨rfl, rfl⟩ (Nat.le_of_ble_eq_true rfl) (ok_X12_open fM) (fun o1 _ H1 locs1 v1 v2 hS => ?_)
  clear wX wM oM
  have wM := v1
  have wX := v2
  have oM := o1
  have dM := aW_D (σ' := σM1) dM
  have ap := (apart2.left (σ' := σM1) ap.symm).symm
  refine lv_icmp_eq (tgt := 1441) hx hb (show decode code 513 = .ok (.if_icmp .eq 928, 3) by decide +kernel) (by decide) (fun _ => ?_) (fun z => absurd rfl z)
  exact kk _ _ ⟨wX, wM, dX, dM, ap, hS, xX, xM, rX, oX, oM, k0⟩
set_option maxRecDepth 100000 in
set_option maxHeartbeats 4000000 in
theorem lwc_10 {p : Program} {l : Launch} {e : Env} {s : State} {m : MethodId} {args : Array Value} {below : List Frame} {meth : Method} {c : Code} {D : va_G} {ids : Ids} {A : Nat → Prop} {b L : Nat} {xs : Nat → Int32} (C : LC p s m args c D ids A b L xs) {aX aM : Nat → Nat} {κ : Kd} {σX σM : Sg} {H : Heap} {locs : List Loc} (B : LW s D ids A aX aM κ σX σM H locs) {cells slots : Nat} (hcs : cells ≤ room_1.cells ∧ slots ≤ room_1.slots) {ls : Array Slot} {i : Int32} (hl : lv_has ls 4 [(0, .ref b), (1, .ref (aX 0)), (2, .ref (aM 0)), (3, .int i)]) (h1 : vp_in (i + 1) L) (h2 : vp_in (i + 2) L) {Q : State → Prop} {r : Int32} {σX1 σM1 : Sg} (fX : f_X11_fetch (xs (ix (i + 1))) (xs (ix (i + 2))) σX = some (r, σX1)) (fM : f_X12_fetch (xs (ix (i + 1))) (xs (ix (i + 2))) σM = some (r, σM1)) (kk : ∀ (H1 : Heap) (locs1 : List Loc), LW s D ids A aX aM κ σX1 σM1 H1 locs1 → W p l e room_1 s m args below meth c H1 locs1 cells slots Q (F0 m 1441 ls [])) : W p l e room_1 s m args below meth c H locs cells slots Q (F0 m 518 ls []) := by
  obtain ⟨hx, hb, hml, hown, hts, hK, hA, hX, hbl, hbA⟩ := C
  obtain ⟨wX, wM, dX, dM, ap, hS, xX, xM, rX, oX, oM, k0⟩ := B
  unfold ix at fX fM
  refine lv_aload_n hx hb (show decode code 518 = .ok (.aload_n 1, 1) by decide +kernel) rfl (lv_at hl 1 rfl) ?_
  refine lv_aload_n hx hb (show decode code 519 = .ok (.aload_n 0, 1) by decide +kernel) rfl (lv_at hl 0 rfl) ?_
  refine lv_iload_n hx hb (show decode code 520 = .ok (.iload_n 3, 1) by decide +kernel) rfl (lv_at hl 3 rfl) ?_
  refine lv_iconst (v := 1) hx hb (show decode code 521 = .ok (.iconst 1, 1) by decide +kernel) (by decide) ?_
  refine lv_iadd hx hb (show decode code 522 = .ok (.iadd, 1) by decide +kernel) ?_
  refine va_sld hx hb hX hbl hbA hS h1 (show decode code 523 = .ok (.iaload, 1) by decide +kernel) ?_
  refine lv_aload_n hx hb (show decode code 524 = .ok (.aload_n 0, 1) by decide +kernel) rfl (lv_at hl 0 rfl) ?_
  refine lv_iload_n hx hb (show decode code 525 = .ok (.iload_n 3, 1) by decide +kernel) rfl (lv_at hl 3 rfl) ?_
  refine lv_iconst (v := 2) hx hb (show decode code 526 = .ok (.iconst 2, 1) by decide +kernel) (by decide) ?_
  refine lv_iadd hx hb (show decode code 527 = .ok (.iadd, 1) by decide +kernel) ?_
  refine va_sld hx hb hX hbl hbA hS h2 (show decode code 528 = .ok (.iaload, 1) by decide +kernel) ?_
  refine lw_call (κ := κ) (ad := aX) (W2 := (aW ids aM κM σM)) (P' := pX11_fetch) (d' := 5) (c0 := 11) (n := 0) (k := 0) [aI (xs (i + 1).toNatClampNeg), aI (xs (i + 2).toNatClampNeg)] [] hx hb hml hl.1 hown hts hcs hK rX oX (List.forall_mem_cons.mpr ⟨okv_of k0 (by decide), List.forall_mem_cons.mpr ⟨trivial, List.forall_mem_cons.mpr ⟨trivial, (fun _ hn => absurd hn List.not_mem_nil)⟩⟩⟩) wX wM dX ap hS hA xX okp_X11_fetch (show decode code 529 = .ok (.invokevirtual 59, 3) by decide +kernel) (List.mem_filter.mp ml_RL_59).1 vok_X11_fetch (by decide) rfl nar_X11_fetch ⟨rfl, rfl⟩ (Nat.le_of_ble_eq_true rfl) (ok_X11_fetch fX) (fun o1 _ H1 locs1 v1 v2 hS => ?_)
  clear wX wM oX
  have wX := v1
  have wM := v2
  have oX := o1
  have dX := aW_D (σ' := σX1) dX
  have ap := apart2.left (σ' := σX1) ap
  refine lv_aload_n hx hb (show decode code 532 = .ok (.aload_n 2, 1) by decide +kernel) rfl (lv_at hl 2 rfl) ?_
  refine lv_aload_n hx hb (show decode code 533 = .ok (.aload_n 0, 1) by decide +kernel) rfl (lv_at hl 0 rfl) ?_
  refine lv_iload_n hx hb (show decode code 534 = .ok (.iload_n 3, 1) by decide +kernel) rfl (lv_at hl 3 rfl) ?_
  refine lv_iconst (v := 1) hx hb (show decode code 535 = .ok (.iconst 1, 1) by decide +kernel) (by decide) ?_
  refine lv_iadd hx hb (show decode code 536 = .ok (.iadd, 1) by decide +kernel) ?_
  refine va_sld hx hb hX hbl hbA hS h1 (show decode code 537 = .ok (.iaload, 1) by decide +kernel) ?_
  refine lv_aload_n hx hb (show decode code 538 = .ok (.aload_n 0, 1) by decide +kernel) rfl (lv_at hl 0 rfl) ?_
  refine lv_iload_n hx hb (show decode code 539 = .ok (.iload_n 3, 1) by decide +kernel) rfl (lv_at hl 3 rfl) ?_
  refine lv_iconst (v := 2) hx hb (show decode code 540 = .ok (.iconst 2, 1) by decide +kernel) (by decide) ?_
  refine lv_iadd hx hb (show decode code 541 = .ok (.iadd, 1) by decide +kernel) ?_
  refine va_sld hx hb hX hbl hbA hS h2 (show decode code 542 = .ok (.iaload, 1) by decide +kernel) ?_
  refine lw_call (κ := κM) (ad := aM) (W2 := (aW ids aX κ σX1)) (P' := pX12_fetch) (d' := 5) (c0 := 12) (n := 0) (k := 0) [aI (xs (i + 1).toNatClampNeg), aI (xs (i + 2).toNatClampNeg)] [.int r] hx hb hml hl.1 hown hts hcs hK regM oM (List.forall_mem_cons.mpr ⟨okv_of rfl (by decide), List.forall_mem_cons.mpr ⟨trivial, List.forall_mem_cons.mpr ⟨trivial, (fun _ hn => absurd hn List.not_mem_nil)⟩⟩⟩) wM wX dM ap.symm hS hA xM okp_X12_fetch (show decode code 543 = .ok (.invokevirtual 62, 3) by decide +kernel) (List.mem_filter.mp ml_RL_62).1 vok_X12_fetch (by decide) rfl nar_X12_fetch ⟨rfl, rfl⟩ (Nat.le_of_ble_eq_true rfl) (ok_X12_fetch fM) (fun o1 _ H1 locs1 v1 v2 hS => ?_)
  clear wX wM oM
  have wM := v1
  have wX := v2
  have oM := o1
  have dM := aW_D (σ' := σM1) dM
  have ap := (apart2.left (σ' := σM1) ap.symm).symm
  refine lv_icmp_eq (tgt := 1441) hx hb (show decode code 546 = .ok (.if_icmp .eq 895, 3) by decide +kernel) (by decide) (fun _ => ?_) (fun z => absurd rfl z)
  exact kk _ _ ⟨wX, wM, dX, dM, ap, hS, xX, xM, rX, oX, oM, k0⟩
set_option maxRecDepth 100000 in
set_option maxHeartbeats 4000000 in
theorem lwc_11 {p : Program} {l : Launch} {e : Env} {s : State} {m : MethodId} {args : Array Value} {below : List Frame} {meth : Method} {c : Code} {D : va_G} {ids : Ids} {A : Nat → Prop} {b L : Nat} {xs : Nat → Int32} (C : LC p s m args c D ids A b L xs) {aX aM : Nat → Nat} {κ : Kd} {σX σM : Sg} {H : Heap} {locs : List Loc} (B : LW s D ids A aX aM κ σX σM H locs) {cells slots : Nat} (hcs : cells ≤ room_1.cells ∧ slots ≤ room_1.slots) {ls : Array Slot} {i : Int32} (hl : lv_has ls 4 [(0, .ref b), (1, .ref (aX 0)), (2, .ref (aM 0)), (3, .int i)]) (h1 : vp_in (i + 1) L) {Q : State → Prop} {r : Int32} {σX1 σM1 : Sg} (fX : f_X11_quench (xs (ix (i + 1))) σX = some (r, σX1)) (fM : f_X12_quench (xs (ix (i + 1))) σM = some (r, σM1)) (kk : ∀ (H1 : Heap) (locs1 : List Loc), LW s D ids A aX aM κ σX1 σM1 H1 locs1 → W p l e room_1 s m args below meth c H1 locs1 cells slots Q (F0 m 1441 ls [])) : W p l e room_1 s m args below meth c H locs cells slots Q (F0 m 551 ls []) := by
  obtain ⟨hx, hb, hml, hown, hts, hK, hA, hX, hbl, hbA⟩ := C
  obtain ⟨wX, wM, dX, dM, ap, hS, xX, xM, rX, oX, oM, k0⟩ := B
  unfold ix at fX fM
  refine lv_aload_n hx hb (show decode code 551 = .ok (.aload_n 1, 1) by decide +kernel) rfl (lv_at hl 1 rfl) ?_
  refine lv_aload_n hx hb (show decode code 552 = .ok (.aload_n 0, 1) by decide +kernel) rfl (lv_at hl 0 rfl) ?_
  refine lv_iload_n hx hb (show decode code 553 = .ok (.iload_n 3, 1) by decide +kernel) rfl (lv_at hl 3 rfl) ?_
  refine lv_iconst (v := 1) hx hb (show decode code 554 = .ok (.iconst 1, 1) by decide +kernel) (by decide) ?_
  refine lv_iadd hx hb (show decode code 555 = .ok (.iadd, 1) by decide +kernel) ?_
  refine va_sld hx hb hX hbl hbA hS h1 (show decode code 556 = .ok (.iaload, 1) by decide +kernel) ?_
  refine lw_call (κ := κ) (ad := aX) (W2 := (aW ids aM κM σM)) (P' := pX11_quench) (d' := 5) (c0 := 11) (n := 0) (k := 0) [aI (xs (i + 1).toNatClampNeg)] [] hx hb hml hl.1 hown hts hcs hK rX oX (List.forall_mem_cons.mpr ⟨okv_of k0 (by decide), List.forall_mem_cons.mpr ⟨trivial, (fun _ hn => absurd hn List.not_mem_nil)⟩⟩) wX wM dX ap hS hA xX okp_X11_quench (show decode code 557 = .ok (.invokevirtual 63, 3) by decide +kernel) (List.mem_filter.mp ml_RL_63).1 vok_X11_quench (by decide) rfl nar_X11_quench ⟨rfl, rfl⟩ (Nat.le_of_ble_eq_true rfl) (ok_X11_quench fX) (fun o1 _ H1 locs1 v1 v2 hS => ?_)
  clear wX wM oX
  have wX := v1
  have wM := v2
  have oX := o1
  have dX := aW_D (σ' := σX1) dX
  have ap := apart2.left (σ' := σX1) ap
  refine lv_aload_n hx hb (show decode code 560 = .ok (.aload_n 2, 1) by decide +kernel) rfl (lv_at hl 2 rfl) ?_
  refine lv_aload_n hx hb (show decode code 561 = .ok (.aload_n 0, 1) by decide +kernel) rfl (lv_at hl 0 rfl) ?_
  refine lv_iload_n hx hb (show decode code 562 = .ok (.iload_n 3, 1) by decide +kernel) rfl (lv_at hl 3 rfl) ?_
  refine lv_iconst (v := 1) hx hb (show decode code 563 = .ok (.iconst 1, 1) by decide +kernel) (by decide) ?_
  refine lv_iadd hx hb (show decode code 564 = .ok (.iadd, 1) by decide +kernel) ?_
  refine va_sld hx hb hX hbl hbA hS h1 (show decode code 565 = .ok (.iaload, 1) by decide +kernel) ?_
  refine lw_call (κ := κM) (ad := aM) (W2 := (aW ids aX κ σX1)) (P' := pX12_quench) (d' := 5) (c0 := 12) (n := 0) (k := 0) [aI (xs (i + 1).toNatClampNeg)] [.int r] hx hb hml hl.1 hown hts hcs hK regM oM (List.forall_mem_cons.mpr ⟨okv_of rfl (by decide), List.forall_mem_cons.mpr ⟨trivial, (fun _ hn => absurd hn List.not_mem_nil)⟩⟩) wM wX dM ap.symm hS hA xM okp_X12_quench (show decode code 566 = .ok (.invokevirtual 66, 3) by decide +kernel) (List.mem_filter.mp ml_RL_66).1 vok_X12_quench (by decide) rfl nar_X12_quench ⟨rfl, rfl⟩ (Nat.le_of_ble_eq_true rfl) (ok_X12_quench fM) (fun o1 _ H1 locs1 v1 v2 hS => ?_)
  clear wX wM oM
  have wM := v1
  have wX := v2
  have oM := o1
  have dM := aW_D (σ' := σM1) dM
  have ap := (apart2.left (σ' := σM1) ap.symm).symm
  refine lv_icmp_eq (tgt := 1441) hx hb (show decode code 569 = .ok (.if_icmp .eq 872, 3) by decide +kernel) (by decide) (fun _ => ?_) (fun z => absurd rfl z)
  exact kk _ _ ⟨wX, wM, dX, dM, ap, hS, xX, xM, rX, oX, oM, k0⟩
