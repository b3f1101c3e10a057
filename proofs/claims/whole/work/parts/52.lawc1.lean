/-! the law: cases 12 on -/
set_option maxRecDepth 100000 in
set_option maxHeartbeats 4000000 in
theorem lwc_12 {p : Program} {l : Launch} {e : Env} {s : State} {m : MethodId} {args : Array Value} {below : List Frame} {meth : Method} {c : Code} {D : va_G} {ids : Ids} {A : Nat → Prop} {b L : Nat} {xs : Nat → Int32} (C : LC p s m args c D ids A b L xs) {aX aM : Nat → Nat} {κ : Kd} {σX σM : Sg} {H : Heap} {locs : List Loc} (B : LW s D ids A aX aM κ σX σM H locs) {cells slots : Nat} (hcs : cells ≤ room_1.cells ∧ slots ≤ room_1.slots) {ls : Array Slot} {i : Int32} (hl : lv_has ls 4 [(0, .ref b), (1, .ref (aX 0)), (2, .ref (aM 0)), (3, .int i)]) (h1 : vp_in (i + 1) L) {Q : State → Prop} {r : Int32} {σX1 σM1 : Sg} (fX : f_X11_warden κ (xs (ix (i + 1))) σX = some (r, σX1)) (fM : f_X12_warden (xs (ix (i + 1))) σM = some (r, σM1)) (kk : ∀ (H1 : Heap) (locs1 : List Loc), LW s D ids A aX aM κ σX1 σM1 H1 locs1 → W p l e room_1 s m args below meth c H1 locs1 cells slots Q (F0 m 1441 ls [])) : W p l e room_1 s m args below meth c H locs cells slots Q (F0 m 574 ls []) := by
  obtain ⟨hx, hb, hml, hown, hts, hK, hA, hX, hbl, hbA⟩ := C
  obtain ⟨wX, wM, dX, dM, ap, hS, xX, xM, rX, oX, oM, k0⟩ := B
  unfold ix at fX fM
  refine lv_aload_n hx hb (show decode code 574 = .ok (.aload_n 1, 1) by decide +kernel) rfl (lv_at hl 1 rfl) ?_
  refine lv_aload_n hx hb (show decode code 575 = .ok (.aload_n 0, 1) by decide +kernel) rfl (lv_at hl 0 rfl) ?_
  refine lv_iload_n hx hb (show decode code 576 = .ok (.iload_n 3, 1) by decide +kernel) rfl (lv_at hl 3 rfl) ?_
  refine lv_iconst (v := 1) hx hb (show decode code 577 = .ok (.iconst 1, 1) by decide +kernel) (by decide) ?_
  refine lv_iadd hx hb (show decode code 578 = .ok (.iadd, 1) by decide +kernel) ?_
  refine va_sld hx hb hX hbl hbA hS h1 (show decode code 579 = .ok (.iaload, 1) by decide +kernel) ?_
  refine lw_call (κ := κ) (ad := aX) (W2 := (aW ids aM κM σM)) (P' := pX11_warden) (d' := 6) (c0 := 11) (n := 0) (k := 0) [aI (xs (i + 1).toNatClampNeg)] [] hx hb hml hl.1 hown hts hcs hK rX oX (List.forall_mem_cons.mpr ⟨okv_of k0 (by decide), List.forall_mem_cons.mpr ⟨trivial, (fun _ hn => absurd hn List.not_mem_nil)⟩⟩) wX wM dX ap hS hA xX okp_X11_warden (show decode code 580 = .ok (.invokevirtual 67, 3) by decide +kernel) (List.mem_filter.mp ml_RL_67).1 vok_X11_warden (by decide) rfl nar_X11_warden ⟨rfl, rfl⟩ (Nat.le_of_ble_eq_true rfl) (ok_X11_warden fX) (fun o1 _ H1 locs1 v1 v2 hS => ?_)
  clear wX wM oX
  have wX := v1
  have wM := v2
  have oX := o1
  have dX := aW_D (σ' := σX1) dX
  have ap := apart2.left (σ' := σX1) ap
  refine lv_aload_n hx hb (show decode code 583 = .ok (.aload_n 2, 1) by decide +kernel) rfl (lv_at hl 2 rfl) ?_
  refine lv_aload_n hx hb (show decode code 584 = .ok (.aload_n 0, 1) by decide +kernel) rfl (lv_at hl 0 rfl) ?_
  refine lv_iload_n hx hb (show decode code 585 = .ok (.iload_n 3, 1) by decide +kernel) rfl (lv_at hl 3 rfl) ?_
  refine lv_iconst (v := 1) hx hb (show decode code 586 = .ok (.iconst 1, 1) by decide +kernel) (by decide) ?_
  refine lv_iadd hx hb (show decode code 587 = .ok (.iadd, 1) by decide +kernel) ?_
  refine va_sld hx hb hX hbl hbA hS h1 (show decode code 588 = .ok (.iaload, 1) by decide +kernel) ?_
  refine lw_call (κ := κM) (ad := aM) (W2 := (aW ids aX κ σX1)) (P' := pX12_warden) (d' := 7) (c0 := 12) (n := 0) (k := 0) [aI (xs (i + 1).toNatClampNeg)] [.int r] hx hb hml hl.1 hown hts hcs hK regM oM (List.forall_mem_cons.mpr ⟨okv_of rfl (by decide), List.forall_mem_cons.mpr ⟨trivial, (fun _ hn => absurd hn List.not_mem_nil)⟩⟩) wM wX dM ap.symm hS hA xM okp_X12_warden (show decode code 589 = .ok (.invokevirtual 70, 3) by decide +kernel) (List.mem_filter.mp ml_RL_70).1 vok_X12_warden (by decide) rfl nar_X12_warden ⟨rfl, rfl⟩ (Nat.le_of_ble_eq_true rfl) (ok_X12_warden fM) (fun o1 _ H1 locs1 v1 v2 hS => ?_)
  clear wX wM oM
  have wM := v1
  have wX := v2
  have oM := o1
  have dM := aW_D (σ' := σM1) dM
  have ap := (apart2.left (σ' := σM1) ap.symm).symm
  refine lv_icmp_eq (tgt := 1441) hx hb (show decode code 592 = .ok (.if_icmp .eq 849, 3) by decide +kernel) (by decide) (fun _ => ?_) (fun z => absurd rfl z)
  exact kk _ _ ⟨wX, wM, dX, dM, ap, hS, xX, xM, rX, oX, oM, k0⟩
set_option maxRecDepth 100000 in
set_option maxHeartbeats 4000000 in
theorem lwc_13 {p : Program} {l : Launch} {e : Env} {s : State} {m : MethodId} {args : Array Value} {below : List Frame} {meth : Method} {c : Code} {D : va_G} {ids : Ids} {A : Nat → Prop} {b L : Nat} {xs : Nat → Int32} (C : LC p s m args c D ids A b L xs) {aX aM : Nat → Nat} {κ : Kd} {σX σM : Sg} {H : Heap} {locs : List Loc} (B : LW s D ids A aX aM κ σX σM H locs) {cells slots : Nat} (hcs : cells ≤ room_1.cells ∧ slots ≤ room_1.slots) {ls : Array Slot} {i : Int32} (hl : lv_has ls 4 [(0, .ref b), (1, .ref (aX 0)), (2, .ref (aM 0)), (3, .int i)]) (h1 : vp_in (i + 1) L) {Q : State → Prop} {r : Int32} {σX1 σM1 : Sg} (fX : f_X11_hour κ (xs (ix (i + 1))) σX = some (r, σX1)) (fM : f_X12_hour (xs (ix (i + 1))) σM = some (r, σM1)) (kk : ∀ (H1 : Heap) (locs1 : List Loc), LW s D ids A aX aM κ σX1 σM1 H1 locs1 → W p l e room_1 s m args below meth c H1 locs1 cells slots Q (F0 m 1441 ls [])) : W p l e room_1 s m args below meth c H locs cells slots Q (F0 m 597 ls []) := by
  obtain ⟨hx, hb, hml, hown, hts, hK, hA, hX, hbl, hbA⟩ := C
  obtain ⟨wX, wM, dX, dM, ap, hS, xX, xM, rX, oX, oM, k0⟩ := B
  unfold ix at fX fM
  refine lv_aload_n hx hb (show decode code 597 = .ok (.aload_n 1, 1) by decide +kernel) rfl (lv_at hl 1 rfl) ?_
  refine lv_aload_n hx hb (show decode code 598 = .ok (.aload_n 0, 1) by decide +kernel) rfl (lv_at hl 0 rfl) ?_
  refine lv_iload_n hx hb (show decode code 599 = .ok (.iload_n 3, 1) by decide +kernel) rfl (lv_at hl 3 rfl) ?_
  refine lv_iconst (v := 1) hx hb (show decode code 600 = .ok (.iconst 1, 1) by decide +kernel) (by decide) ?_
  refine lv_iadd hx hb (show decode code 601 = .ok (.iadd, 1) by decide +kernel) ?_
  refine va_sld hx hb hX hbl hbA hS h1 (show decode code 602 = .ok (.iaload, 1) by decide +kernel) ?_
  refine lw_call (κ := κ) (ad := aX) (W2 := (aW ids aM κM σM)) (P' := pX11_hour) (d' := 8) (c0 := 11) (n := 0) (k := 0) [aI (xs (i + 1).toNatClampNeg)] [] hx hb hml hl.1 hown hts hcs hK rX oX (List.forall_mem_cons.mpr ⟨okv_of k0 (by decide), List.forall_mem_cons.mpr ⟨trivial, (fun _ hn => absurd hn List.not_mem_nil)⟩⟩) wX wM dX ap hS hA xX okp_X11_hour (show decode code 603 = .ok (.invokevirtual 71, 3) by decide +kernel) (List.mem_filter.mp ml_RL_71).1 vok_X11_hour (by decide) rfl nar_X11_hour ⟨rfl, rfl⟩ (Nat.le_of_ble_eq_true rfl) (ok_X11_hour fX) (fun o1 _ H1 locs1 v1 v2 hS => ?_)
  clear wX wM oX
  have wX := v1
  have wM := v2
  have oX := o1
  have dX := aW_D (σ' := σX1) dX
  have ap := apart2.left (σ' := σX1) ap
  refine lv_aload_n hx hb (show decode code 606 = .ok (.aload_n 2, 1) by decide +kernel) rfl (lv_at hl 2 rfl) ?_
  refine lv_aload_n hx hb (show decode code 607 = .ok (.aload_n 0, 1) by decide +kernel) rfl (lv_at hl 0 rfl) ?_
  refine lv_iload_n hx hb (show decode code 608 = .ok (.iload_n 3, 1) by decide +kernel) rfl (lv_at hl 3 rfl) ?_
  refine lv_iconst (v := 1) hx hb (show decode code 609 = .ok (.iconst 1, 1) by decide +kernel) (by decide) ?_
  refine lv_iadd hx hb (show decode code 610 = .ok (.iadd, 1) by decide +kernel) ?_
  refine va_sld hx hb hX hbl hbA hS h1 (show decode code 611 = .ok (.iaload, 1) by decide +kernel) ?_
  refine lw_call (κ := κM) (ad := aM) (W2 := (aW ids aX κ σX1)) (P' := pX12_hour) (d' := 10) (c0 := 12) (n := 0) (k := 0) [aI (xs (i + 1).toNatClampNeg)] [.int r] hx hb hml hl.1 hown hts hcs hK regM oM (List.forall_mem_cons.mpr ⟨okv_of rfl (by decide), List.forall_mem_cons.mpr ⟨trivial, (fun _ hn => absurd hn List.not_mem_nil)⟩⟩) wM wX dM ap.symm hS hA xM okp_X12_hour (show decode code 612 = .ok (.invokevirtual 74, 3) by decide +kernel) (List.mem_filter.mp ml_RL_74).1 vok_X12_hour (by decide) rfl nar_X12_hour ⟨rfl, rfl⟩ (Nat.le_of_ble_eq_true rfl) (ok_X12_hour fM) (fun o1 _ H1 locs1 v1 v2 hS => ?_)
  clear wX wM oM
  have wM := v1
  have wX := v2
  have oM := o1
  have dM := aW_D (σ' := σM1) dM
  have ap := (apart2.left (σ' := σM1) ap.symm).symm
  refine lv_icmp_eq (tgt := 1441) hx hb (show decode code 615 = .ok (.if_icmp .eq 826, 3) by decide +kernel) (by decide) (fun _ => ?_) (fun z => absurd rfl z)
  exact kk _ _ ⟨wX, wM, dX, dM, ap, hS, xX, xM, rX, oX, oM, k0⟩
set_option maxRecDepth 100000 in
set_option maxHeartbeats 4000000 in
theorem lwc_14 {p : Program} {l : Launch} {e : Env} {s : State} {m : MethodId} {args : Array Value} {below : List Frame} {meth : Method} {c : Code} {D : va_G} {ids : Ids} {A : Nat → Prop} {b L : Nat} {xs : Nat → Int32} (C : LC p s m args c D ids A b L xs) {aX aM : Nat → Nat} {κ : Kd} {σX σM : Sg} {H : Heap} {locs : List Loc} (B : LW s D ids A aX aM κ σX σM H locs) {cells slots : Nat} (hcs : cells ≤ room_1.cells ∧ slots ≤ room_1.slots) {ls : Array Slot} {i : Int32} (hl : lv_has ls 4 [(0, .ref b), (1, .ref (aX 0)), (2, .ref (aM 0)), (3, .int i)]) (h1 : vp_in (i + 1) L) {Q : State → Prop} {r : Int32} {σX1 σM1 : Sg} (fX : f_X11_played κ (xs (ix (i + 1))) σX = some (r, σX1)) (fM : f_X12_played (xs (ix (i + 1))) σM = some (r, σM1)) (kk : ∀ (H1 : Heap) (locs1 : List Loc), LW s D ids A aX aM κ σX1 σM1 H1 locs1 → W p l e room_1 s m args below meth c H1 locs1 cells slots Q (F0 m 1441 ls [])) : W p l e room_1 s m args below meth c H locs cells slots Q (F0 m 620 ls []) := by
  obtain ⟨hx, hb, hml, hown, hts, hK, hA, hX, hbl, hbA⟩ := C
  obtain ⟨wX, wM, dX, dM, ap, hS, xX, xM, rX, oX, oM, k0⟩ := B
  unfold ix at fX fM
  refine lv_aload_n hx hb (show decode code 620 = .ok (.aload_n 1, 1) by decide +kernel) rfl (lv_at hl 1 rfl) ?_
  refine lv_aload_n hx hb (show decode code 621 = .ok (.aload_n 0, 1) by decide +kernel) rfl (lv_at hl 0 rfl) ?_
  refine lv_iload_n hx hb (show decode code 622 = .ok (.iload_n 3, 1) by decide +kernel) rfl (lv_at hl 3 rfl) ?_
  refine lv_iconst (v := 1) hx hb (show decode code 623 = .ok (.iconst 1, 1) by decide +kernel) (by decide) ?_
  refine lv_iadd hx hb (show decode code 624 = .ok (.iadd, 1) by decide +kernel) ?_
  refine va_sld hx hb hX hbl hbA hS h1 (show decode code 625 = .ok (.iaload, 1) by decide +kernel) ?_
  refine lw_call (κ := κ) (ad := aX) (W2 := (aW ids aM κM σM)) (P' := pX11_played) (d' := 8) (c0 := 11) (n := 0) (k := 0) [aI (xs (i + 1).toNatClampNeg)] [] hx hb hml hl.1 hown hts hcs hK rX oX (List.forall_mem_cons.mpr ⟨okv_of k0 (by decide), List.forall_mem_cons.mpr ⟨trivial, (fun _ hn => absurd hn List.not_mem_nil)⟩⟩) wX wM dX ap hS hA xX okp_X11_played (show decode code 626 = .ok (.invokevirtual 75, 3) by decide +kernel) (List.mem_filter.mp ml_RL_75).1 vok_X11_played (by decide) rfl nar_X11_played ⟨rfl, rfl⟩ (Nat.le_of_ble_eq_true rfl) (ok_X11_played fX) (fun o1 _ H1 locs1 v1 v2 hS => ?_)
  clear wX wM oX
  have wX := v1
  have wM := v2
  have oX := o1
  have dX := aW_D (σ' := σX1) dX
  have ap := apart2.left (σ' := σX1) ap
  refine lv_aload_n hx hb (show decode code 629 = .ok (.aload_n 2, 1) by decide +kernel) rfl (lv_at hl 2 rfl) ?_
  refine lv_aload_n hx hb (show decode code 630 = .ok (.aload_n 0, 1) by decide +kernel) rfl (lv_at hl 0 rfl) ?_
  refine lv_iload_n hx hb (show decode code 631 = .ok (.iload_n 3, 1) by decide +kernel) rfl (lv_at hl 3 rfl) ?_
  refine lv_iconst (v := 1) hx hb (show decode code 632 = .ok (.iconst 1, 1) by decide +kernel) (by decide) ?_
  refine lv_iadd hx hb (show decode code 633 = .ok (.iadd, 1) by decide +kernel) ?_
  refine va_sld hx hb hX hbl hbA hS h1 (show decode code 634 = .ok (.iaload, 1) by decide +kernel) ?_
  refine lw_call (κ := κM) (ad := aM) (W2 := (aW ids aX κ σX1)) (P' := pX12_played) (d' := 11) (c0 := 12) (n := 0) (k := 0) [aI (xs (i + 1).toNatClampNeg)] [.int r] hx hb hml hl.1 hown hts hcs hK regM oM (List.forall_mem_cons.mpr ⟨okv_of rfl (by decide), List.forall_mem_cons.mpr ⟨trivial, (fun _ hn => absurd hn List.not_mem_nil)⟩⟩) wM wX dM ap.symm hS hA xM okp_X12_played (show decode code 635 = .ok (.invokevirtual 78, 3) by decide +kernel) (List.mem_filter.mp ml_RL_78).1 vok_X12_played (by decide) rfl nar_X12_played ⟨rfl, rfl⟩ (Nat.le_of_ble_eq_true rfl) (ok_X12_played fM) (fun o1 _ H1 locs1 v1 v2 hS => ?_)
  clear wX wM oM
  have wM := v1
  have wX := v2
  have oM := o1
  have dM := aW_D (σ' := σM1) dM
  have ap := (apart2.left (σ' := σM1) ap.symm).symm
  refine lv_icmp_eq (tgt := 1441) hx hb (show decode code 638 = .ok (.if_icmp .eq 803, 3) by decide +kernel) (by decide) (fun _ => ?_) (fun z => absurd rfl z)
  exact kk _ _ ⟨wX, wM, dX, dM, ap, hS, xX, xM, rX, oX, oM, k0⟩
set_option maxRecDepth 100000 in
set_option maxHeartbeats 4000000 in
theorem lwc_15 {p : Program} {l : Launch} {e : Env} {s : State} {m : MethodId} {args : Array Value} {below : List Frame} {meth : Method} {c : Code} {D : va_G} {ids : Ids} {A : Nat → Prop} {b L : Nat} {xs : Nat → Int32} (C : LC p s m args c D ids A b L xs) {aX aM : Nat → Nat} {κ : Kd} {σX σM : Sg} {H : Heap} {locs : List Loc} (B : LW s D ids A aX aM κ σX σM H locs) {cells slots : Nat} (hcs : cells ≤ room_1.cells ∧ slots ≤ room_1.slots) {ls : Array Slot} {i : Int32} (hl : lv_has ls 4 [(0, .ref b), (1, .ref (aX 0)), (2, .ref (aM 0)), (3, .int i)]) (h1 : vp_in (i + 1) L) (h2 : vp_in (i + 2) L) {Q : State → Prop} {r : Int32} {σX1 σM1 : Sg} (fX : f_X11_winters κ (xs (ix (i + 1))) (xs (ix (i + 2))) σX = some (r, σX1)) (fM : f_X12_winters (xs (ix (i + 1))) (xs (ix (i + 2))) σM = some (r, σM1)) (kk : ∀ (H1 : Heap) (locs1 : List Loc), LW s D ids A aX aM κ σX1 σM1 H1 locs1 → W p l e room_1 s m args below meth c H1 locs1 cells slots Q (F0 m 1441 ls [])) : W p l e room_1 s m args below meth c H locs cells slots Q (F0 m 643 ls []) := by
  obtain ⟨hx, hb, hml, hown, hts, hK, hA, hX, hbl, hbA⟩ := C
  obtain ⟨wX, wM, dX, dM, ap, hS, xX, xM, rX, oX, oM, k0⟩ := B
  unfold ix at fX fM
  refine lv_aload_n hx hb (show decode code 643 = .ok (.aload_n 1, 1) by decide +kernel) rfl (lv_at hl 1 rfl) ?_
  refine lv_aload_n hx hb (show decode code 644 = .ok (.aload_n 0, 1) by decide +kernel) rfl (lv_at hl 0 rfl) ?_
  refine lv_iload_n hx hb (show decode code 645 = .ok (.iload_n 3, 1) by decide +kernel) rfl (lv_at hl 3 rfl) ?_
  refine lv_iconst (v := 1) hx hb (show decode code 646 = .ok (.iconst 1, 1) by decide +kernel) (by decide) ?_
  refine lv_iadd hx hb (show decode code 647 = .ok (.iadd, 1) by decide +kernel) ?_
  refine va_sld hx hb hX hbl hbA hS h1 (show decode code 648 = .ok (.iaload, 1) by decide +kernel) ?_
  refine lv_aload_n hx hb (show decode code 649 = .ok (.aload_n 0, 1) by decide +kernel) rfl (lv_at hl 0 rfl) ?_
  refine lv_iload_n hx hb (show decode code 650 = .ok (.iload_n 3, 1) by decide +kernel) rfl (lv_at hl 3 rfl) ?_
  refine lv_iconst (v := 2) hx hb (show decode code 651 = .ok (.iconst 2, 1) by decide +kernel) (by decide) ?_
  refine lv_iadd hx hb (show decode code 652 = .ok (.iadd, 1) by decide +kernel) ?_
  refine va_sld hx hb hX hbl hbA hS h2 (show decode code 653 = .ok (.iaload, 1) by decide +kernel) ?_
  refine lw_call (κ := κ) (ad := aX) (W2 := (aW ids aM κM σM)) (P' := pX11_winters) (d' := 8) (c0 := 11) (n := 0) (k := 0) [aI (xs (i + 1).toNatClampNeg), aI (xs (i + 2).toNatClampNeg)] [] hx hb hml hl.1 hown hts hcs hK rX oX (List.forall_mem_cons.mpr ⟨okv_of k0 (by decide), List.forall_mem_cons.mpr ⟨trivial, List.forall_mem_cons.mpr ⟨trivial, (fun _ hn => absurd hn List.not_mem_nil)⟩⟩⟩) wX wM dX ap hS hA xX okp_X11_winters (show decode code 654 = .ok (.invokevirtual 79, 3) by decide +kernel) (List.mem_filter.mp ml_RL_79).1 vok_X11_winters (by decide) rfl nar_X11_winters ⟨rfl, rfl⟩ (Nat.le_of_ble_eq_true rfl) (ok_X11_winters fX) (fun o1 _ H1 locs1 v1 v2 hS => ?_)
  clear wX wM oX
  have wX := v1
  have wM := v2
  have oX := o1
  have dX := aW_D (σ' := σX1) dX
  have ap := apart2.left (σ' := σX1) ap
  refine lv_aload_n hx hb (show decode code 657 = .ok (.aload_n 2, 1) by decide +kernel) rfl (lv_at hl 2 rfl) ?_
  refine lv_aload_n hx hb (show decode code 658 = .ok (.aload_n 0, 1) by decide +kernel) rfl (lv_at hl 0 rfl) ?_
  refine lv_iload_n hx hb (show decode code 659 = .ok (.iload_n 3, 1) by decide +kernel) rfl (lv_at hl 3 rfl) ?_
  refine lv_iconst (v := 1) hx hb (show decode code 660 = .ok (.iconst 1, 1) by decide +kernel) (by decide) ?_
  refine lv_iadd hx hb (show decode code 661 = .ok (.iadd, 1) by decide +kernel) ?_
  refine va_sld hx hb hX hbl hbA hS h1 (show decode code 662 = .ok (.iaload, 1) by decide +kernel) ?_
  refine lv_aload_n hx hb (show decode code 663 = .ok (.aload_n 0, 1) by decide +kernel) rfl (lv_at hl 0 rfl) ?_
  refine lv_iload_n hx hb (show decode code 664 = .ok (.iload_n 3, 1) by decide +kernel) rfl (lv_at hl 3 rfl) ?_
  refine lv_iconst (v := 2) hx hb (show decode code 665 = .ok (.iconst 2, 1) by decide +kernel) (by decide) ?_
  refine lv_iadd hx hb (show decode code 666 = .ok (.iadd, 1) by decide +kernel) ?_
  refine va_sld hx hb hX hbl hbA hS h2 (show decode code 667 = .ok (.iaload, 1) by decide +kernel) ?_
  refine lw_call (κ := κM) (ad := aM) (W2 := (aW ids aX κ σX1)) (P' := pX12_winters) (d' := 10) (c0 := 12) (n := 0) (k := 0) [aI (xs (i + 1).toNatClampNeg), aI (xs (i + 2).toNatClampNeg)] [.int r] hx hb hml hl.1 hown hts hcs hK regM oM (List.forall_mem_cons.mpr ⟨okv_of rfl (by decide), List.forall_mem_cons.mpr ⟨trivial, List.forall_mem_cons.mpr ⟨trivial, (fun _ hn => absurd hn List.not_mem_nil)⟩⟩⟩) wM wX dM ap.symm hS hA xM okp_X12_winters (show decode code 668 = .ok (.invokevirtual 82, 3) by decide +kernel) (List.mem_filter.mp ml_RL_82).1 vok_X12_winters (by decide) rfl nar_X12_winters ⟨rfl, rfl⟩ (Nat.le_of_ble_eq_true rfl) (ok_X12_winters fM) (fun o1 _ H1 locs1 v1 v2 hS => ?_)
  clear wX wM oM
  have wM := v1
  have wX := v2
  have oM := o1
  have dM := aW_D (σ' := σM1) dM
  have ap := (apart2.left (σ' := σM1) ap.symm).symm
  refine lv_icmp_eq (tgt := 1441) hx hb (show decode code 671 = .ok (.if_icmp .eq 770, 3) by decide +kernel) (by decide) (fun _ => ?_) (fun z => absurd rfl z)
  exact kk _ _ ⟨wX, wM, dX, dM, ap, hS, xX, xM, rX, oX, oM, k0⟩
set_option maxRecDepth 100000 in
set_option maxHeartbeats 4000000 in
theorem lwc_16 {p : Program} {l : Launch} {e : Env} {s : State} {m : MethodId} {args : Array Value} {below : List Frame} {meth : Method} {c : Code} {D : va_G} {ids : Ids} {A : Nat → Prop} {b L : Nat} {xs : Nat → Int32} (C : LC p s m args c D ids A b L xs) {aX aM : Nat → Nat} {κ : Kd} {σX σM : Sg} {H : Heap} {locs : List Loc} (B : LW s D ids A aX aM κ σX σM H locs) {cells slots : Nat} (hcs : cells ≤ room_1.cells ∧ slots ≤ room_1.slots) {ls : Array Slot} {i : Int32} (hl : lv_has ls 4 [(0, .ref b), (1, .ref (aX 0)), (2, .ref (aM 0)), (3, .int i)])  {Q : State → Prop} {r : Int32} {σX1 σM1 : Sg} (fX : f_X11_undo  σX = some (r, σX1)) (fM : f_X12_undo  σM = some (r, σM1)) (kk : ∀ (H1 : Heap) (locs1 : List Loc), LW s D ids A aX aM κ σX1 σM1 H1 locs1 → W p l e room_1 s m args below meth c H1 locs1 cells slots Q (F0 m 1441 ls [])) : W p l e room_1 s m args below meth c H locs cells slots Q (F0 m 676 ls []) := by
  obtain ⟨hx, hb, hml, hown, hts, hK, hA, hX, hbl, hbA⟩ := C
  obtain ⟨wX, wM, dX, dM, ap, hS, xX, xM, rX, oX, oM, k0⟩ := B
  refine lv_aload_n hx hb (show decode code 676 = .ok (.aload_n 1, 1) by decide +kernel) rfl (lv_at hl 1 rfl) ?_
  refine lw_call (κ := κ) (ad := aX) (W2 := (aW ids aM κM σM)) (P' := pX11_undo) (d' := 4) (c0 := 11) (n := 0) (k := 0) [] [] hx hb hml hl.1 hown hts hcs hK rX oX (List.forall_mem_cons.mpr ⟨okv_of k0 (by decide), (fun _ hn => absurd hn List.not_mem_nil)⟩) wX wM dX ap hS hA xX okp_X11_undo (show decode code 677 = .ok (.invokevirtual 83, 3) by decide +kernel) (List.mem_filter.mp ml_RL_83).1 vok_X11_undo (by decide) rfl nar_X11_undo ⟨rfl, rfl⟩ (Nat.le_of_ble_eq_true rfl) (ok_X11_undo fX) (fun o1 _ H1 locs1 v1 v2 hS => ?_)
  clear wX wM oX
  have wX := v1
  have wM := v2
  have oX := o1
  have dX := aW_D (σ' := σX1) dX
  have ap := apart2.left (σ' := σX1) ap
  refine lv_aload_n hx hb (show decode code 680 = .ok (.aload_n 2, 1) by decide +kernel) rfl (lv_at hl 2 rfl) ?_
  refine lw_call (κ := κM) (ad := aM) (W2 := (aW ids aX κ σX1)) (P' := pX12_undo) (d' := 3) (c0 := 12) (n := 0) (k := 0) [] [.int r] hx hb hml hl.1 hown hts hcs hK regM oM (List.forall_mem_cons.mpr ⟨okv_of rfl (by decide), (fun _ hn => absurd hn List.not_mem_nil)⟩) wM wX dM ap.symm hS hA xM okp_X12_undo (show decode code 681 = .ok (.invokevirtual 86, 3) by decide +kernel) (List.mem_filter.mp ml_RL_86).1 vok_X12_undo (by decide) rfl nar_X12_undo ⟨rfl, rfl⟩ (Nat.le_of_ble_eq_true rfl) (ok_X12_undo fM) (fun o1 _ H1 locs1 v1 v2 hS => ?_)
  clear wX wM oM
  have wM := v1
  have wX := v2
  have oM := o1
  have dM := aW_D (σ' := σM1) dM
  have ap := (apart2.left (σ' := σM1) ap.symm).symm
  refine lv_icmp_eq (tgt := 1441) hx hb (show decode code 684 = .ok (.if_icmp .eq 757, 3) by decide +kernel) (by decide) (fun _ => ?_) (fun z => absurd rfl z)
  exact kk _ _ ⟨wX, wM, dX, dM, ap, hS, xX, xM, rX, oX, oM, k0⟩
set_option maxRecDepth 100000 in
set_option maxHeartbeats 4000000 in
theorem lwc_17 {p : Program} {l : Launch} {e : Env} {s : State} {m : MethodId} {args : Array Value} {below : List Frame} {meth : Method} {c : Code} {D : va_G} {ids : Ids} {A : Nat → Prop} {b L : Nat} {xs : Nat → Int32} (C : LC p s m args c D ids A b L xs) {aX aM : Nat → Nat} {κ : Kd} {σX σM : Sg} {H : Heap} {locs : List Loc} (B : LW s D ids A aX aM κ σX σM H locs) {cells slots : Nat} (hcs : cells ≤ room_1.cells ∧ slots ≤ room_1.slots) {ls : Array Slot} {i : Int32} (hl : lv_has ls 4 [(0, .ref b), (1, .ref (aX 0)), (2, .ref (aM 0)), (3, .int i)]) (h1 : vp_in (i + 1) L) (h2 : vp_in (i + 2) L) {Q : State → Prop} {r : Int32} {σX1 σM1 : Sg} (fX : f_X11_of κ (xs (ix (i + 1))) (xs (ix (i + 2))) σX = some (r, σX1)) (fM : f_X12_of (xs (ix (i + 1))) (xs (ix (i + 2))) σM = some (r, σM1)) (kk : ∀ (H1 : Heap) (locs1 : List Loc), LW s D ids A aX aM κ σX1 σM1 H1 locs1 → W p l e room_1 s m args below meth c H1 locs1 cells slots Q (F0 m 1441 ls [])) : W p l e room_1 s m args below meth c H locs cells slots Q (F0 m 689 ls []) := by
  obtain ⟨hx, hb, hml, hown, hts, hK, hA, hX, hbl, hbA⟩ := C
  obtain ⟨wX, wM, dX, dM, ap, hS, xX, xM, rX, oX, oM, k0⟩ := B
  unfold ix at fX fM
  refine lv_aload_n hx hb (show decode code 689 = .ok (.aload_n 1, 1) by decide +kernel) rfl (lv_at hl 1 rfl) ?_
  refine lv_aload_n hx hb (show decode code 690 = .ok (.aload_n 0, 1) by decide +kernel) rfl (lv_at hl 0 rfl) ?_
  refine lv_iload_n hx hb (show decode code 691 = .ok (.iload_n 3, 1) by decide +kernel) rfl (lv_at hl 3 rfl) ?_
  refine lv_iconst (v := 1) hx hb (show decode code 692 = .ok (.iconst 1, 1) by decide +kernel) (by decide) ?_
  refine lv_iadd hx hb (show decode code 693 = .ok (.iadd, 1) by decide +kernel) ?_
  refine va_sld hx hb hX hbl hbA hS h1 (show decode code 694 = .ok (.iaload, 1) by decide +kernel) ?_
  refine lv_aload_n hx hb (show decode code 695 = .ok (.aload_n 0, 1) by decide +kernel) rfl (lv_at hl 0 rfl) ?_
  refine lv_iload_n hx hb (show decode code 696 = .ok (.iload_n 3, 1) by decide +kernel) rfl (lv_at hl 3 rfl) ?_
  refine lv_iconst (v := 2) hx hb (show decode code 697 = .ok (.iconst 2, 1) by decide +kernel) (by decide) ?_
  refine lv_iadd hx hb (show decode code 698 = .ok (.iadd, 1) by decide +kernel) ?_
  refine va_sld hx hb hX hbl hbA hS h2 (show decode code 699 = .ok (.iaload, 1) by decide +kernel) ?_
  refine lw_call (κ := κ) (ad := aX) (W2 := (aW ids aM κM σM)) (P' := pX11_of) (d' := 7) (c0 := 11) (n := 0) (k := 0) [aI (xs (i + 1).toNatClampNeg), aI (xs (i + 2).toNatClampNeg)] [] hx hb hml hl.1 hown hts hcs hK rX oX (List.forall_mem_cons.mpr ⟨okv_of k0 (by decide), List.forall_mem_cons.mpr ⟨trivial, List.forall_mem_cons.mpr ⟨trivial, (fun _ hn => absurd hn List.not_mem_nil)⟩⟩⟩) wX wM dX ap hS hA xX okp_X11_of (show decode code 700 = .ok (.invokevirtual 87, 3) by decide +kernel) (List.mem_filter.mp ml_RL_87).1 vok_X11_of (by decide) rfl nar_X11_of ⟨rfl, rfl⟩ (Nat.le_of_ble_eq_true rfl) (ok_X11_of fX) (fun o1 _ H1 locs1 v1 v2 hS => ?_)
  clear wX wM oX
  have wX := v1
  have wM := v2
  have oX := o1
  have dX := aW_D (σ' := σX1) dX
  have ap := apart2.left (σ' := σX1) ap
  refine lv_aload_n hx hb (show decode code 703 = .ok (.aload_n 2, 1) by decide +kernel) rfl (lv_at hl 2 rfl) ?_
  refine lv_aload_n hx hb (show decode code 704 = .ok (.aload_n 0, 1) by decide +kernel) rfl (lv_at hl 0 rfl) ?_
  refine lv_iload_n hx hb (show decode code 705 = .ok (.iload_n 3, 1) by decide +kernel) rfl (lv_at hl 3 rfl) ?_
  refine lv_iconst (v := 1) hx hb (show decode code 706 = .ok (.iconst 1, 1) by decide +kernel) (by decide) ?_
  refine lv_iadd hx hb (show decode code 707 = .ok (.iadd, 1) by decide +kernel) ?_
  refine va_sld hx hb hX hbl hbA hS h1 (show decode code 708 = .ok (.iaload, 1) by decide +kernel) ?_
  refine lv_aload_n hx hb (show decode code 709 = .ok (.aload_n 0, 1) by decide +kernel) rfl (lv_at hl 0 rfl) ?_
  refine lv_iload_n hx hb (show decode code 710 = .ok (.iload_n 3, 1) by decide +kernel) rfl (lv_at hl 3 rfl) ?_
  refine lv_iconst (v := 2) hx hb (show decode code 711 = .ok (.iconst 2, 1) by decide +kernel) (by decide) ?_
  refine lv_iadd hx hb (show decode code 712 = .ok (.iadd, 1) by decide +kernel) ?_
  refine va_sld hx hb hX hbl hbA hS h2 (show decode code 713 = .ok (.iaload, 1) by decide +kernel) ?_
  refine lw_call (κ := κM) (ad := aM) (W2 := (aW ids aX κ σX1)) (P' := pX12_of) (d' := 6) (c0 := 12) (n := 0) (k := 0) [aI (xs (i + 1).toNatClampNeg), aI (xs (i + 2).toNatClampNeg)] [.int r] hx hb hml hl.1 hown hts hcs hK regM oM (List.forall_mem_cons.mpr ⟨okv_of rfl (by decide), List.forall_mem_cons.mpr ⟨trivial, List.forall_mem_cons.mpr ⟨trivial, (fun _ hn => absurd hn List.not_mem_nil)⟩⟩⟩) wM wX dM ap.symm hS hA xM okp_X12_of (show decode code 714 = .ok (.invokevirtual 90, 3) by decide +kernel) (List.mem_filter.mp ml_RL_90).1 vok_X12_of (by decide) rfl nar_X12_of ⟨rfl, rfl⟩ (Nat.le_of_ble_eq_true rfl) (ok_X12_of fM) (fun o1 _ H1 locs1 v1 v2 hS => ?_)
  clear wX wM oM
  have wM := v1
  have wX := v2
  have oM := o1
  have dM := aW_D (σ' := σM1) dM
  have ap := (apart2.left (σ' := σM1) ap.symm).symm
  refine lv_icmp_eq (tgt := 1441) hx hb (show decode code 717 = .ok (.if_icmp .eq 724, 3) by decide +kernel) (by decide) (fun _ => ?_) (fun z => absurd rfl z)
  exact kk _ _ ⟨wX, wM, dX, dM, ap, hS, xX, xM, rX, oX, oM, k0⟩
set_option maxRecDepth 100000 in
set_option maxHeartbeats 4000000 in
theorem lwc_18 {p : Program} {l : Launch} {e : Env} {s : State} {m : MethodId} {args : Array Value} {below : List Frame} {meth : Method} {c : Code} {D : va_G} {ids : Ids} {A : Nat → Prop} {b L : Nat} {xs : Nat → Int32} (C : LC p s m args c D ids A b L xs) {aX aM : Nat → Nat} {κ : Kd} {σX σM : Sg} {H : Heap} {locs : List Loc} (B : LW s D ids A aX aM κ σX σM H locs) {cells slots : Nat} (hcs : cells ≤ room_1.cells ∧ slots ≤ room_1.slots) {ls : Array Slot} {i : Int32} (hl : lv_has ls 4 [(0, .ref b), (1, .ref (aX 0)), (2, .ref (aM 0)), (3, .int i)]) (h1 : vp_in (i + 1) L) {Q : State → Prop} {r : Int32} {σX1 σM1 : Sg} (fX : f_X11_is (xs (ix (i + 1))) σX = some (r, σX1)) (fM : f_X12_is (xs (ix (i + 1))) σM = some (r, σM1)) (kk : ∀ (H1 : Heap) (locs1 : List Loc), LW s D ids A aX aM κ σX1 σM1 H1 locs1 → W p l e room_1 s m args below meth c H1 locs1 cells slots Q (F0 m 1441 ls [])) : W p l e room_1 s m args below meth c H locs cells slots Q (F0 m 722 ls []) := by
  obtain ⟨hx, hb, hml, hown, hts, hK, hA, hX, hbl, hbA⟩ := C
  obtain ⟨wX, wM, dX, dM, ap, hS, xX, xM, rX, oX, oM, k0⟩ := B
  unfold ix at fX fM
  refine lv_aload_n hx hb (show decode code 722 = .ok (.aload_n 1, 1) by decide +kernel) rfl (lv_at hl 1 rfl) ?_
  refine lv_aload_n hx hb (show decode code 723 = .ok (.aload_n 0, 1) by decide +kernel) rfl (lv_at hl 0 rfl) ?_
  refine lv_iload_n hx hb (show decode code 724 = .ok (.iload_n 3, 1) by decide +kernel) rfl (lv_at hl 3 rfl) ?_
  refine lv_iconst (v := 1) hx hb (show decode code 725 = .ok (.iconst 1, 1) by decide +kernel) (by decide) ?_
  refine lv_iadd hx hb (show decode code 726 = .ok (.iadd, 1) by decide +kernel) ?_
  refine va_sld hx hb hX hbl hbA hS h1 (show decode code 727 = .ok (.iaload, 1) by decide +kernel) ?_
  refine lw_call (κ := κ) (ad := aX) (W2 := (aW ids aM κM σM)) (P' := pX11_is) (d' := 2) (c0 := 11) (n := 0) (k := 0) [aI (xs (i + 1).toNatClampNeg)] [] hx hb hml hl.1 hown hts hcs hK rX oX (List.forall_mem_cons.mpr ⟨okv_of k0 (by decide), List.forall_mem_cons.mpr ⟨trivial, (fun _ hn => absurd hn List.not_mem_nil)⟩⟩) wX wM dX ap hS hA xX okp_X11_is (show decode code 728 = .ok (.invokevirtual 91, 3) by decide +kernel) (List.mem_filter.mp ml_RL_91).1 vok_X11_is (by decide) rfl nar_X11_is ⟨rfl, rfl⟩ (Nat.le_of_ble_eq_true rfl) (ok_X11_is fX) (fun o1 _ H1 locs1 v1 v2 hS => ?_)
  clear wX wM oX
  have wX := v1
  have wM := v2
  have oX := o1
  have dX := aW_D (σ' := σX1) dX
  have ap := apart2.left (σ' := σX1) ap
  refine lv_aload_n hx hb (show decode code 731 = .ok (.aload_n 2, 1) by decide +kernel) rfl (lv_at hl 2 rfl) ?_
  refine lv_aload_n hx hb (show decode code 732 = .ok (.aload_n 0, 1) by decide +kernel) rfl (lv_at hl 0 rfl) ?_
  refine lv_iload_n hx hb (show decode code 733 = .ok (.iload_n 3, 1) by decide +kernel) rfl (lv_at hl 3 rfl) ?_
  refine lv_iconst (v := 1) hx hb (show decode code 734 = .ok (.iconst 1, 1) by decide +kernel) (by decide) ?_
  refine lv_iadd hx hb (show decode code 735 = .ok (.iadd, 1) by decide +kernel) ?_
  refine va_sld hx hb hX hbl hbA hS h1 (show decode code 736 = .ok (.iaload, 1) by decide +kernel) ?_
  refine lw_call (κ := κM) (ad := aM) (W2 := (aW ids aX κ σX1)) (P' := pX12_is) (d' := 2) (c0 := 12) (n := 0) (k := 0) [aI (xs (i + 1).toNatClampNeg)] [.int r] hx hb hml hl.1 hown hts hcs hK regM oM (List.forall_mem_cons.mpr ⟨okv_of rfl (by decide), List.forall_mem_cons.mpr ⟨trivial, (fun _ hn => absurd hn List.not_mem_nil)⟩⟩) wM wX dM ap.symm hS hA xM okp_X12_is (show decode code 737 = .ok (.invokevirtual 94, 3) by decide +kernel) (List.mem_filter.mp ml_RL_94).1 vok_X12_is (by decide) rfl nar_X12_is ⟨rfl, rfl⟩ (Nat.le_of_ble_eq_true rfl) (ok_X12_is fM) (fun o1 _ H1 locs1 v1 v2 hS => ?_)
  clear wX wM oM
  have wM := v1
  have wX := v2
  have oM := o1
  have dM := aW_D (σ' := σM1) dM
  have ap := (apart2.left (σ' := σM1) ap.symm).symm
  refine lv_icmp_eq (tgt := 1441) hx hb (show decode code 740 = .ok (.if_icmp .eq 701, 3) by decide +kernel) (by decide) (fun _ => ?_) (fun z => absurd rfl z)
  exact kk _ _ ⟨wX, wM, dX, dM, ap, hS, xX, xM, rX, oX, oM, k0⟩
set_option maxRecDepth 100000 in
set_option maxHeartbeats 4000000 in
theorem lwc_19 {p : Program} {l : Launch} {e : Env} {s : State} {m : MethodId} {args : Array Value} {below : List Frame} {meth : Method} {c : Code} {D : va_G} {ids : Ids} {A : Nat → Prop} {b L : Nat} {xs : Nat → Int32} (C : LC p s m args c D ids A b L xs) {aX aM : Nat → Nat} {κ : Kd} {σX σM : Sg} {H : Heap} {locs : List Loc} (B : LW s D ids A aX aM κ σX σM H locs) {cells slots : Nat} (hcs : cells ≤ room_1.cells ∧ slots ≤ room_1.slots) {ls : Array Slot} {i : Int32} (hl : lv_has ls 4 [(0, .ref b), (1, .ref (aX 0)), (2, .ref (aM 0)), (3, .int i)]) (h1 : vp_in (i + 1) L) (h2 : vp_in (i + 2) L) {Q : State → Prop} {r : Int32} {σX1 σM1 : Sg} (fX : f_X11_book (xs (ix (i + 1))) (xs (ix (i + 2))) σX = some (r, σX1)) (fM : f_X12_book (xs (ix (i + 1))) (xs (ix (i + 2))) σM = some (r, σM1)) (kk : ∀ (H1 : Heap) (locs1 : List Loc), LW s D ids A aX aM κ σX1 σM1 H1 locs1 → W p l e room_1 s m args below meth c H1 locs1 cells slots Q (F0 m 1441 ls [])) : W p l e room_1 s m args below meth c H locs cells slots Q (F0 m 745 ls []) := by
  obtain ⟨hx, hb, hml, hown, hts, hK, hA, hX, hbl, hbA⟩ := C
  obtain ⟨wX, wM, dX, dM, ap, hS, xX, xM, rX, oX, oM, k0⟩ := B
  unfold ix at fX fM
  refine lv_aload_n hx hb (show decode code 745 = .ok (.aload_n 1, 1) by decide +kernel) rfl (lv_at hl 1 rfl) ?_
  refine lv_aload_n hx hb (show decode code 746 = .ok (.aload_n 0, 1) by decide +kernel) rfl (lv_at hl 0 rfl) ?_
  refine lv_iload_n hx hb (show decode code 747 = .ok (.iload_n 3, 1) by decide +kernel) rfl (lv_at hl 3 rfl) ?_
  refine lv_iconst (v := 1) hx hb (show decode code 748 = .ok (.iconst 1, 1) by decide +kernel) (by decide) ?_
  refine lv_iadd hx hb (show decode code 749 = .ok (.iadd, 1) by decide +kernel) ?_
  refine va_sld hx hb hX hbl hbA hS h1 (show decode code 750 = .ok (.iaload, 1) by decide +kernel) ?_
  refine lv_aload_n hx hb (show decode code 751 = .ok (.aload_n 0, 1) by decide +kernel) rfl (lv_at hl 0 rfl) ?_
  refine lv_iload_n hx hb (show decode code 752 = .ok (.iload_n 3, 1) by decide +kernel) rfl (lv_at hl 3 rfl) ?_
  refine lv_iconst (v := 2) hx hb (show decode code 753 = .ok (.iconst 2, 1) by decide +kernel) (by decide) ?_
  refine lv_iadd hx hb (show decode code 754 = .ok (.iadd, 1) by decide +kernel) ?_
  refine va_sld hx hb hX hbl hbA hS h2 (show decode code 755 = .ok (.iaload, 1) by decide +kernel) ?_
  refine lw_call (κ := κ) (ad := aX) (W2 := (aW ids aM κM σM)) (P' := pX11_book) (d' := 2) (c0 := 11) (n := 0) (k := 0) [aI (xs (i + 1).toNatClampNeg), aI (xs (i + 2).toNatClampNeg)] [] hx hb hml hl.1 hown hts hcs hK rX oX (List.forall_mem_cons.mpr ⟨okv_of k0 (by decide), List.forall_mem_cons.mpr ⟨trivial, List.forall_mem_cons.mpr ⟨trivial, (fun _ hn => absurd hn List.not_mem_nil)⟩⟩⟩) wX wM dX ap hS hA xX okp_X11_book (show decode code 756 = .ok (.invokevirtual 95, 3) by decide +kernel) (List.mem_filter.mp ml_RL_95).1 vok_X11_book (by decide) rfl nar_X11_book ⟨rfl, rfl⟩ (Nat.le_of_ble_eq_true rfl) (ok_X11_book fX) (fun o1 _ H1 locs1 v1 v2 hS => ?_)
  clear wX wM oX
  have wX := v1
  have wM := v2
  have oX := o1
  have dX := aW_D (σ' := σX1) dX
  have ap := apart2.left (σ' := σX1) ap
  refine lv_aload_n hx hb (show decode code 759 = .ok (.aload_n 2, 1) by decide +kernel) rfl (lv_at hl 2 rfl) ?_
  refine lv_aload_n hx hb (show decode code 760 = .ok (.aload_n 0, 1) by decide +kernel) rfl (lv_at hl 0 rfl) ?_
  refine lv_iload_n hx hb (show decode code 761 = .ok (.iload_n 3, 1) by decide +kernel) rfl (lv_at hl 3 rfl) ?_
  refine lv_iconst (v := 1) hx hb (show decode code 762 = .ok (.iconst 1, 1) by decide +kernel) (by decide) ?_
  refine lv_iadd hx hb (show decode code 763 = .ok (.iadd, 1) by decide +kernel) ?_
  refine va_sld hx hb hX hbl hbA hS h1 (show decode code 764 = .ok (.iaload, 1) by decide +kernel) ?_
  refine lv_aload_n hx hb (show decode code 765 = .ok (.aload_n 0, 1) by decide +kernel) rfl (lv_at hl 0 rfl) ?_
  refine lv_iload_n hx hb (show decode code 766 = .ok (.iload_n 3, 1) by decide +kernel) rfl (lv_at hl 3 rfl) ?_
  refine lv_iconst (v := 2) hx hb (show decode code 767 = .ok (.iconst 2, 1) by decide +kernel) (by decide) ?_
  refine lv_iadd hx hb (show decode code 768 = .ok (.iadd, 1) by decide +kernel) ?_
  refine va_sld hx hb hX hbl hbA hS h2 (show decode code 769 = .ok (.iaload, 1) by decide +kernel) ?_
  refine lw_call (κ := κM) (ad := aM) (W2 := (aW ids aX κ σX1)) (P' := pX12_book) (d' := 2) (c0 := 12) (n := 0) (k := 0) [aI (xs (i + 1).toNatClampNeg), aI (xs (i + 2).toNatClampNeg)] [.int r] hx hb hml hl.1 hown hts hcs hK regM oM (List.forall_mem_cons.mpr ⟨okv_of rfl (by decide), List.forall_mem_cons.mpr ⟨trivial, List.forall_mem_cons.mpr ⟨trivial, (fun _ hn => absurd hn List.not_mem_nil)⟩⟩⟩) wM wX dM ap.symm hS hA xM okp_X12_book (show decode code 770 = .ok (.invokevirtual 98, 3) by decide +kernel) (List.mem_filter.mp ml_RL_98).1 vok_X12_book (by decide) rfl nar_X12_book ⟨rfl, rfl⟩ (Nat.le_of_ble_eq_true rfl) (ok_X12_book fM) (fun o1 _ H1 locs1 v1 v2 hS => ?_)
  clear wX wM oM
  have wM := v1
  have wX := v2
  have oM := o1
  have dM := aW_D (σ' := σM1) dM
  have ap := (apart2.left (σ' := σM1) ap.symm).symm
  refine lv_icmp_eq (tgt := 1441) hx hb (show decode code 773 = .ok (.if_icmp .eq 668, 3) by decide +kernel) (by decide) (fun _ => ?_) (fun z => absurd rfl z)
  exact kk _ _ ⟨wX, wM, dX, dM, ap, hS, xX, xM, rX, oX, oM, k0⟩
set_option maxRecDepth 100000 in
set_option maxHeartbeats 4000000 in
theorem lwc_20 {p : Program} {l : Launch} {e : Env} {s : State} {m : MethodId} {args : Array Value} {below : List Frame} {meth : Method} {c : Code} {D : va_G} {ids : Ids} {A : Nat → Prop} {b L : Nat} {xs : Nat → Int32} (C : LC p s m args c D ids A b L xs) {aX aM : Nat → Nat} {κ : Kd} {σX σM : Sg} {H : Heap} {locs : List Loc} (B : LW s D ids A aX aM κ σX σM H locs) {cells slots : Nat} (hcs : cells ≤ room_1.cells ∧ slots ≤ room_1.slots) {ls : Array Slot} {i : Int32} (hl : lv_has ls 4 [(0, .ref b), (1, .ref (aX 0)), (2, .ref (aM 0)), (3, .int i)]) (h1 : vp_in (i + 1) L) (h2 : vp_in (i + 2) L) (h3 : vp_in (i + 3) L) {Q : State → Prop} {r : Int32} {σX1 σM1 : Sg} (fX : f_X11_foretold κ (xs (ix (i + 1))) (xs (ix (i + 2))) (xs (ix (i + 3))) σX = some (r, σX1)) (fM : f_X12_foretold (xs (ix (i + 1))) (xs (ix (i + 2))) (xs (ix (i + 3))) σM = some (r, σM1)) (kk : ∀ (H1 : Heap) (locs1 : List Loc), LW s D ids A aX aM κ σX1 σM1 H1 locs1 → W p l e room_1 s m args below meth c H1 locs1 cells slots Q (F0 m 1441 ls [])) : W p l e room_1 s m args below meth c H locs cells slots Q (F0 m 778 ls []) := by
  obtain ⟨hx, hb, hml, hown, hts, hK, hA, hX, hbl, hbA⟩ := C
  obtain ⟨wX, wM, dX, dM, ap, hS, xX, xM, rX, oX, oM, k0⟩ := B
  unfold ix at fX fM
  refine lv_aload_n hx hb (show decode code 778 = .ok (.aload_n 1, 1) by decide +kernel) rfl (lv_at hl 1 rfl) ?_
  refine lv_aload_n hx hb (show decode code 779 = .ok (.aload_n 0, 1) by decide +kernel) rfl (lv_at hl 0 rfl) ?_
  refine lv_iload_n hx hb (show decode code 780 = .ok (.iload_n 3, 1) by decide +kernel) rfl (lv_at hl 3 rfl) ?_
  refine lv_iconst (v := 1) hx hb (show decode code 781 = .ok (.iconst 1, 1) by decide +kernel) (by decide) ?_
  refine lv_iadd hx hb (show decode code 782 = .ok (.iadd, 1) by decide +kernel) ?_
  refine va_sld hx hb hX hbl hbA hS h1 (show decode code 783 = .ok (.iaload, 1) by decide +kernel) ?_
  refine lv_aload_n hx hb (show decode code 784 = .ok (.aload_n 0, 1) by decide +kernel) rfl (lv_at hl 0 rfl) ?_
  refine lv_iload_n hx hb (show decode code 785 = .ok (.iload_n 3, 1) by decide +kernel) rfl (lv_at hl 3 rfl) ?_
  refine lv_iconst (v := 2) hx hb (show decode code 786 = .ok (.iconst 2, 1) by decide +kernel) (by decide) ?_
  refine lv_iadd hx hb (show decode code 787 = .ok (.iadd, 1) by decide +kernel) ?_
  refine va_sld hx hb hX hbl hbA hS h2 (show decode code 788 = .ok (.iaload, 1) by decide +kernel) ?_
  refine lv_aload_n hx hb (show decode code 789 = .ok (.aload_n 0, 1) by decide +kernel) rfl (lv_at hl 0 rfl) ?_
  refine lv_iload_n hx hb (show decode code 790 = .ok (.iload_n 3, 1) by decide +kernel) rfl (lv_at hl 3 rfl) ?_
  refine lv_iconst (v := 3) hx hb (show decode code 791 = .ok (.iconst 3, 1) by decide +kernel) (by decide) ?_
  refine lv_iadd hx hb (show decode code 792 = .ok (.iadd, 1) by decide +kernel) ?_
  refine va_sld hx hb hX hbl hbA hS h3 (show decode code 793 = .ok (.iaload, 1) by decide +kernel) ?_
  refine lw_call (κ := κ) (ad := aX) (W2 := (aW ids aM κM σM)) (P' := pX11_foretold) (d' := 7) (c0 := 11) (n := 0) (k := 0) [aI (xs (i + 1).toNatClampNeg), aI (xs (i + 2).toNatClampNeg), aI (xs (i + 3).toNatClampNeg)] [] hx hb hml hl.1 hown hts hcs hK rX oX (List.forall_mem_cons.mpr ⟨okv_of k0 (by decide), List.forall_mem_cons.mpr ⟨trivial, List.forall_mem_cons.mpr ⟨trivial, List.forall_mem_cons.mpr ⟨trivial, (fun _ hn => absurd hn List.not_mem_nil)⟩⟩⟩⟩) wX wM dX ap hS hA xX okp_X11_foretold (show decode code 794 = .ok (.invokevirtual 99, 3) by decide +kernel) (List.mem_filter.mp ml_RL_99).1 vok_X11_foretold (by decide) rfl nar_X11_foretold ⟨rfl, rfl⟩ (Nat.le_of_ble_eq_true rfl) (ok_X11_foretold fX) (fun o1 _ H1 locs1 v1 v2 hS => ?_)
  clear wX wM oX
  have wX := v1
  have wM := v2
  have oX := o1
  have dX := aW_D (σ' := σX1) dX
  have ap := apart2.left (σ' := σX1) ap
  refine lv_aload_n hx hb (show decode code 797 = .ok (.aload_n 2, 1) by decide +kernel) rfl (lv_at hl 2 rfl) ?_
  refine lv_aload_n hx hb (show decode code 798 = .ok (.aload_n 0, 1) by decide +kernel) rfl (lv_at hl 0 rfl) ?_
  refine lv_iload_n hx hb (show decode code 799 = .ok (.iload_n 3, 1) by decide +kernel) rfl (lv_at hl 3 rfl) ?_
  refine lv_iconst (v := 1) hx hb (show decode code 800 = .ok (.iconst 1, 1) by decide +kernel) (by decide) ?_
  refine lv_iadd hx hb (show decode code 801 = .ok (.iadd, 1) by decide +kernel) ?_
  refine va_sld hx hb hX hbl hbA hS h1 (show decode code 802 = .ok (.iaload, 1) by decide +kernel) ?_
  refine lv_aload_n hx hb (show decode code 803 = .ok (.aload_n 0, 1) by decide +kernel) rfl (lv_at hl 0 rfl) ?_
  refine lv_iload_n hx hb (show decode code 804 = .ok (.iload_n 3, 1) by decide +kernel) rfl (lv_at hl 3 rfl) ?_
  refine lv_iconst (v := 2) hx hb (show decode code 805 = .ok (.iconst 2, 1) by decide +kernel) (by decide) ?_
  refine lv_iadd hx hb (show decode code 806 = .ok (.iadd, 1) by decide +kernel) ?_
  refine va_sld hx hb hX hbl hbA hS h2 (show decode code 807 = .ok (.iaload, 1) by decide +kernel) ?_
  refine lv_aload_n hx hb (show decode code 808 = .ok (.aload_n 0, 1) by decide +kernel) rfl (lv_at hl 0 rfl) ?_
  refine lv_iload_n hx hb (show decode code 809 = .ok (.iload_n 3, 1) by decide +kernel) rfl (lv_at hl 3 rfl) ?_
  refine lv_iconst (v := 3) hx hb (show decode code 810 = .ok (.iconst 3, 1) by decide +kernel) (by decide) ?_
  refine lv_iadd hx hb (show decode code 811 = .ok (.iadd, 1) by decide +kernel) ?_
  refine va_sld hx hb hX hbl hbA hS h3 (show decode code 812 = .ok (.iaload, 1) by decide +kernel) ?_
  refine lw_call (κ := κM) (ad := aM) (W2 := (aW ids aX κ σX1)) (P' := pX12_foretold) (d' := 9) (c0 := 12) (n := 0) (k := 0) [aI (xs (i + 1).toNatClampNeg), aI (xs (i + 2).toNatClampNeg), aI (xs (i + 3).toNatClampNeg)] [.int r] hx hb hml hl.1 hown hts hcs hK regM oM (List.forall_mem_cons.mpr ⟨okv_of rfl (by decide), List.forall_mem_cons.mpr ⟨trivial, List.forall_mem_cons.mpr ⟨trivial, List.forall_mem_cons.mpr ⟨trivial, (fun _ hn => absurd hn List.not_mem_nil)⟩⟩⟩⟩) wM wX dM ap.symm hS hA xM okp_X12_foretold (show decode code 813 = .ok (.invokevirtual 103, 3) by decide +kernel) (List.mem_filter.mp ml_RL_103).1 vok_X12_foretold (by decide) rfl nar_X12_foretold ⟨rfl, rfl⟩ (Nat.le_of_ble_eq_true rfl) (ok_X12_foretold fM) (fun o1 _ H1 locs1 v1 v2 hS => ?_)
  clear wX wM oM
  have wM := v1
  have wX := v2
  have oM := o1
  have dM := aW_D (σ' := σM1) dM
  have ap := (apart2.left (σ' := σM1) ap.symm).symm
  refine lv_icmp_eq (tgt := 1441) hx hb (show decode code 816 = .ok (.if_icmp .eq 625, 3) by decide +kernel) (by decide) (fun _ => ?_) (fun z => absurd rfl z)
  exact kk _ _ ⟨wX, wM, dX, dM, ap, hS, xX, xM, rX, oX, oM, k0⟩
set_option maxRecDepth 100000 in
set_option maxHeartbeats 4000000 in
theorem lwc_21 {p : Program} {l : Launch} {e : Env} {s : State} {m : MethodId} {args : Array Value} {below : List Frame} {meth : Method} {c : Code} {D : va_G} {ids : Ids} {A : Nat → Prop} {b L : Nat} {xs : Nat → Int32} (C : LC p s m args c D ids A b L xs) {aX aM : Nat → Nat} {κ : Kd} {σX σM : Sg} {H : Heap} {locs : List Loc} (B : LW s D ids A aX aM κ σX σM H locs) {cells slots : Nat} (hcs : cells ≤ room_1.cells ∧ slots ≤ room_1.slots) {ls : Array Slot} {i : Int32} (hl : lv_has ls 4 [(0, .ref b), (1, .ref (aX 0)), (2, .ref (aM 0)), (3, .int i)]) (h1 : vp_in (i + 1) L) {Q : State → Prop} {r : Int32} {σX1 σM1 : Sg} (fX : f_X11_out κ (xs (ix (i + 1))) σX = some (r, σX1)) (fM : f_X12_out (xs (ix (i + 1))) σM = some (r, σM1)) (kk : ∀ (H1 : Heap) (locs1 : List Loc), LW s D ids A aX aM κ σX1 σM1 H1 locs1 → W p l e room_1 s m args below meth c H1 locs1 cells slots Q (F0 m 1441 ls [])) : W p l e room_1 s m args below meth c H locs cells slots Q (F0 m 821 ls []) := by
  obtain ⟨hx, hb, hml, hown, hts, hK, hA, hX, hbl, hbA⟩ := C
  obtain ⟨wX, wM, dX, dM, ap, hS, xX, xM, rX, oX, oM, k0⟩ := B
  unfold ix at fX fM
  refine lv_aload_n hx hb (show decode code 821 = .ok (.aload_n 1, 1) by decide +kernel) rfl (lv_at hl 1 rfl) ?_
  refine lv_aload_n hx hb (show decode code 822 = .ok (.aload_n 0, 1) by decide +kernel) rfl (lv_at hl 0 rfl) ?_
  refine lv_iload_n hx hb (show decode code 823 = .ok (.iload_n 3, 1) by decide +kernel) rfl (lv_at hl 3 rfl) ?_
  refine lv_iconst (v := 1) hx hb (show decode code 824 = .ok (.iconst 1, 1) by decide +kernel) (by decide) ?_
  refine lv_iadd hx hb (show decode code 825 = .ok (.iadd, 1) by decide +kernel) ?_
  refine va_sld hx hb hX hbl hbA hS h1 (show decode code 826 = .ok (.iaload, 1) by decide +kernel) ?_
  refine lw_call (κ := κ) (ad := aX) (W2 := (aW ids aM κM σM)) (P' := pX11_out) (d' := 7) (c0 := 11) (n := 0) (k := 0) [aI (xs (i + 1).toNatClampNeg)] [] hx hb hml hl.1 hown hts hcs hK rX oX (List.forall_mem_cons.mpr ⟨okv_of k0 (by decide), List.forall_mem_cons.mpr ⟨trivial, (fun _ hn => absurd hn List.not_mem_nil)⟩⟩) wX wM dX ap hS hA xX okp_X11_out (show decode code 827 = .ok (.invokevirtual 104, 3) by decide +kernel) (List.mem_filter.mp ml_RL_104).1 vok_X11_out (by decide) rfl nar_X11_out ⟨rfl, rfl⟩ (Nat.le_of_ble_eq_true rfl) (ok_X11_out fX) (fun o1 _ H1 locs1 v1 v2 hS => ?_)
  clear wX wM oX
  have wX := v1
  have wM := v2
  have oX := o1
  have dX := aW_D (σ' := σX1) dX
  have ap := apart2.left (σ' := σX1) ap
  refine lv_aload_n hx hb (show decode code 830 = .ok (.aload_n 2, 1) by decide +kernel) rfl (lv_at hl 2 rfl) ?_
  refine lv_aload_n hx hb (show decode code 831 = .ok (.aload_n 0, 1) by decide +kernel) rfl (lv_at hl 0 rfl) ?_
  refine lv_iload_n hx hb (show decode code 832 = .ok (.iload_n 3, 1) by decide +kernel) rfl (lv_at hl 3 rfl) ?_
  refine lv_iconst (v := 1) hx hb (show decode code 833 = .ok (.iconst 1, 1) by decide +kernel) (by decide) ?_
  refine lv_iadd hx hb (show decode code 834 = .ok (.iadd, 1) by decide +kernel) ?_
  refine va_sld hx hb hX hbl hbA hS h1 (show decode code 835 = .ok (.iaload, 1) by decide +kernel) ?_
  refine lw_call (κ := κM) (ad := aM) (W2 := (aW ids aX κ σX1)) (P' := pX12_out) (d' := 9) (c0 := 12) (n := 0) (k := 0) [aI (xs (i + 1).toNatClampNeg)] [.int r] hx hb hml hl.1 hown hts hcs hK regM oM (List.forall_mem_cons.mpr ⟨okv_of rfl (by decide), List.forall_mem_cons.mpr ⟨trivial, (fun _ hn => absurd hn List.not_mem_nil)⟩⟩) wM wX dM ap.symm hS hA xM okp_X12_out (show decode code 836 = .ok (.invokevirtual 107, 3) by decide +kernel) (List.mem_filter.mp ml_RL_107).1 vok_X12_out (by decide) rfl nar_X12_out ⟨rfl, rfl⟩ (Nat.le_of_ble_eq_true rfl) (ok_X12_out fM) (fun o1 _ H1 locs1 v1 v2 hS => ?_)
  clear wX wM oM
  have wM := v1
  have wX := v2
  have oM := o1
  have dM := aW_D (σ' := σM1) dM
  have ap := (apart2.left (σ' := σM1) ap.symm).symm
  refine lv_icmp_eq (tgt := 1441) hx hb (show decode code 839 = .ok (.if_icmp .eq 602, 3) by decide +kernel) (by decide) (fun _ => ?_) (fun z => absurd rfl z)
  exact kk _ _ ⟨wX, wM, dX, dM, ap, hS, xX, xM, rX, oX, oM, k0⟩
set_option maxRecDepth 100000 in
set_option maxHeartbeats 4000000 in
theorem lwc_22 {p : Program} {l : Launch} {e : Env} {s : State} {m : MethodId} {args : Array Value} {below : List Frame} {meth : Method} {c : Code} {D : va_G} {ids : Ids} {A : Nat → Prop} {b L : Nat} {xs : Nat → Int32} (C : LC p s m args c D ids A b L xs) {aX aM : Nat → Nat} {κ : Kd} {σX σM : Sg} {H : Heap} {locs : List Loc} (B : LW s D ids A aX aM κ σX σM H locs) {cells slots : Nat} (hcs : cells ≤ room_1.cells ∧ slots ≤ room_1.slots) {ls : Array Slot} {i : Int32} (hl : lv_has ls 4 [(0, .ref b), (1, .ref (aX 0)), (2, .ref (aM 0)), (3, .int i)]) (h1 : vp_in (i + 1) L) (h2 : vp_in (i + 2) L) {Q : State → Prop} {r : Int32} {σX1 σM1 : Sg} (fX : f_X11_far (xs (ix (i + 1))) (xs (ix (i + 2))) σX = some (r, σX1)) (fM : f_X12_far (xs (ix (i + 1))) (xs (ix (i + 2))) σM = some (r, σM1)) (kk : ∀ (H1 : Heap) (locs1 : List Loc), LW s D ids A aX aM κ σX1 σM1 H1 locs1 → W p l e room_1 s m args below meth c H1 locs1 cells slots Q (F0 m 1441 ls [])) : W p l e room_1 s m args below meth c H locs cells slots Q (F0 m 844 ls []) := by
  obtain ⟨hx, hb, hml, hown, hts, hK, hA, hX, hbl, hbA⟩ := C
  obtain ⟨wX, wM, dX, dM, ap, hS, xX, xM, rX, oX, oM, k0⟩ := B
  unfold ix at fX fM
  refine lv_aload_n hx hb (show decode code 844 = .ok (.aload_n 1, 1) by decide +kernel) rfl (lv_at hl 1 rfl) ?_
  refine lv_aload_n hx hb (show decode code 845 = .ok (.aload_n 0, 1) by decide +kernel) rfl (lv_at hl 0 rfl) ?_
  refine lv_iload_n hx hb (show decode code 846 = .ok (.iload_n 3, 1) by decide +kernel) rfl (lv_at hl 3 rfl) ?_
  refine lv_iconst (v := 1) hx hb (show decode code 847 = .ok (.iconst 1, 1) by decide +kernel) (by decide) ?_
  refine lv_iadd hx hb (show decode code 848 = .ok (.iadd, 1) by decide +kernel) ?_
  refine va_sld hx hb hX hbl hbA hS h1 (show decode code 849 = .ok (.iaload, 1) by decide +kernel) ?_
  refine lv_aload_n hx hb (show decode code 850 = .ok (.aload_n 0, 1) by decide +kernel) rfl (lv_at hl 0 rfl) ?_
  refine lv_iload_n hx hb (show decode code 851 = .ok (.iload_n 3, 1) by decide +kernel) rfl (lv_at hl 3 rfl) ?_
  refine lv_iconst (v := 2) hx hb (show decode code 852 = .ok (.iconst 2, 1) by decide +kernel) (by decide) ?_
  refine lv_iadd hx hb (show decode code 853 = .ok (.iadd, 1) by decide +kernel) ?_
  refine va_sld hx hb hX hbl hbA hS h2 (show decode code 854 = .ok (.iaload, 1) by decide +kernel) ?_
  refine lw_call (κ := κ) (ad := aX) (W2 := (aW ids aM κM σM)) (P' := pX11_far) (d' := 4) (c0 := 11) (n := 0) (k := 0) [aI (xs (i + 1).toNatClampNeg), aI (xs (i + 2).toNatClampNeg)] [] hx hb hml hl.1 hown hts hcs hK rX oX (List.forall_mem_cons.mpr ⟨okv_of k0 (by decide), List.forall_mem_cons.mpr ⟨trivial, List.forall_mem_cons.mpr ⟨trivial, (fun _ hn => absurd hn List.not_mem_nil)⟩⟩⟩) wX wM dX ap hS hA xX okp_X11_far (show decode code 855 = .ok (.invokevirtual 108, 3) by decide +kernel) (List.mem_filter.mp ml_RL_108).1 vok_X11_far (by decide) rfl nar_X11_far ⟨rfl, rfl⟩ (Nat.le_of_ble_eq_true rfl) (ok_X11_far fX) (fun o1 _ H1 locs1 v1 v2 hS => ?_)
  clear wX wM oX
  have wX := v1
  have wM := v2
  have oX := o1
  have dX := aW_D (σ' := σX1) dX
  have ap := apart2.left (σ' := σX1) ap
  refine lv_aload_n hx hb (show decode code 858 = .ok (.aload_n 2, 1) by decide +kernel) rfl (lv_at hl 2 rfl) ?_
  refine lv_aload_n hx hb (show decode code 859 = .ok (.aload_n 0, 1) by decide +kernel) rfl (lv_at hl 0 rfl) ?_
  refine lv_iload_n hx hb (show decode code 860 = .ok (.iload_n 3, 1) by decide +kernel) rfl (lv_at hl 3 rfl) ?_
  refine lv_iconst (v := 1) hx hb (show decode code 861 = .ok (.iconst 1, 1) by decide +kernel) (by decide) ?_
  refine lv_iadd hx hb (show decode code 862 = .ok (.iadd, 1) by decide +kernel) ?_
  refine va_sld hx hb hX hbl hbA hS h1 (show decode code 863 = .ok (.iaload, 1) by decide +kernel) ?_
  refine lv_aload_n hx hb (show decode code 864 = .ok (.aload_n 0, 1) by decide +kernel) rfl (lv_at hl 0 rfl) ?_
  refine lv_iload_n hx hb (show decode code 865 = .ok (.iload_n 3, 1) by decide +kernel) rfl (lv_at hl 3 rfl) ?_
  refine lv_iconst (v := 2) hx hb (show decode code 866 = .ok (.iconst 2, 1) by decide +kernel) (by decide) ?_
  refine lv_iadd hx hb (show decode code 867 = .ok (.iadd, 1) by decide +kernel) ?_
  refine va_sld hx hb hX hbl hbA hS h2 (show decode code 868 = .ok (.iaload, 1) by decide +kernel) ?_
  refine lw_call (κ := κM) (ad := aM) (W2 := (aW ids aX κ σX1)) (P' := pX12_far) (d' := 3) (c0 := 12) (n := 0) (k := 0) [aI (xs (i + 1).toNatClampNeg), aI (xs (i + 2).toNatClampNeg)] [.int r] hx hb hml hl.1 hown hts hcs hK regM oM (List.forall_mem_cons.mpr ⟨okv_of rfl (by decide), List.forall_mem_cons.mpr ⟨trivial, List.forall_mem_cons.mpr ⟨trivial, (fun _ hn => absurd hn List.not_mem_nil)⟩⟩⟩) wM wX dM ap.symm hS hA xM okp_X12_far (show decode code 869 = .ok (.invokevirtual 111, 3) by decide +kernel) (List.mem_filter.mp ml_RL_111).1 vok_X12_far (by decide) rfl nar_X12_far ⟨rfl, rfl⟩ (Nat.le_of_ble_eq_true rfl) (ok_X12_far fM) (fun o1 _ H1 locs1 v1 v2 hS => ?_)
  clear wX wM oM
  have wM := v1
  have wX := v2
  have oM := o1
  have dM := aW_D (σ' := σM1) dM
  have ap := (apart2.left (σ' := σM1) ap.symm).symm
  refine lv_icmp_eq (tgt := 1441) hx hb (show decode code 872 = .ok (.if_icmp .eq 569, 3) by decide +kernel) (by decide) (fun _ => ?_) (fun z => absurd rfl z)
  exact kk _ _ ⟨wX, wM, dX, dM, ap, hS, xX, xM, rX, oX, oM, k0⟩
set_option maxRecDepth 100000 in
set_option maxHeartbeats 4000000 in
theorem lwc_23 {p : Program} {l : Launch} {e : Env} {s : State} {m : MethodId} {args : Array Value} {below : List Frame} {meth : Method} {c : Code} {D : va_G} {ids : Ids} {A : Nat → Prop} {b L : Nat} {xs : Nat → Int32} (C : LC p s m args c D ids A b L xs) {aX aM : Nat → Nat} {κ : Kd} {σX σM : Sg} {H : Heap} {locs : List Loc} (B : LW s D ids A aX aM κ σX σM H locs) {cells slots : Nat} (hcs : cells ≤ room_1.cells ∧ slots ≤ room_1.slots) {ls : Array Slot} {i : Int32} (hl : lv_has ls 4 [(0, .ref b), (1, .ref (aX 0)), (2, .ref (aM 0)), (3, .int i)]) (h1 : vp_in (i + 1) L) {Q : State → Prop} {r : Int32} {σX1 σM1 : Sg} (fX : f_X11_round (xs (ix (i + 1))) σX = some (r, σX1)) (fM : f_X12_round (xs (ix (i + 1))) σM = some (r, σM1)) (kk : ∀ (H1 : Heap) (locs1 : List Loc), LW s D ids A aX aM κ σX1 σM1 H1 locs1 → W p l e room_1 s m args below meth c H1 locs1 cells slots Q (F0 m 1441 ls [])) : W p l e room_1 s m args below meth c H locs cells slots Q (F0 m 877 ls []) := by
  obtain ⟨hx, hb, hml, hown, hts, hK, hA, hX, hbl, hbA⟩ := C
  obtain ⟨wX, wM, dX, dM, ap, hS, xX, xM, rX, oX, oM, k0⟩ := B
  unfold ix at fX fM
  refine lv_aload_n hx hb (show decode code 877 = .ok (.aload_n 1, 1) by decide +kernel) rfl (lv_at hl 1 rfl) ?_
  refine lv_aload_n hx hb (show decode code 878 = .ok (.aload_n 0, 1) by decide +kernel) rfl (lv_at hl 0 rfl) ?_
  refine lv_iload_n hx hb (show decode code 879 = .ok (.iload_n 3, 1) by decide +kernel) rfl (lv_at hl 3 rfl) ?_
  refine lv_iconst (v := 1) hx hb (show decode code 880 = .ok (.iconst 1, 1) by decide +kernel) (by decide) ?_
  refine lv_iadd hx hb (show decode code 881 = .ok (.iadd, 1) by decide +kernel) ?_
  refine va_sld hx hb hX hbl hbA hS h1 (show decode code 882 = .ok (.iaload, 1) by decide +kernel) ?_
  refine lw_call (κ := κ) (ad := aX) (W2 := (aW ids aM κM σM)) (P' := pX11_round) (d' := 6) (c0 := 11) (n := 0) (k := 0) [aI (xs (i + 1).toNatClampNeg)] [] hx hb hml hl.1 hown hts hcs hK rX oX (List.forall_mem_cons.mpr ⟨okv_of k0 (by decide), List.forall_mem_cons.mpr ⟨trivial, (fun _ hn => absurd hn List.not_mem_nil)⟩⟩) wX wM dX ap hS hA xX okp_X11_round (show decode code 883 = .ok (.invokevirtual 112, 3) by decide +kernel) (List.mem_filter.mp ml_RL_112).1 vok_X11_round (by decide) rfl nar_X11_round ⟨rfl, rfl⟩ (Nat.le_of_ble_eq_true rfl) (ok_X11_round fX) (fun o1 _ H1 locs1 v1 v2 hS => ?_)
  clear wX wM oX
  have wX := v1
  have wM := v2
  have oX := o1
  have dX := aW_D (σ' := σX1) dX
  have ap := apart2.left (σ' := σX1) ap
  refine lv_aload_n hx hb (show decode code 886 = .ok (.aload_n 2, 1) by decide +kernel) rfl (lv_at hl 2 rfl) ?_
  refine lv_aload_n hx hb (show decode code 887 = .ok (.aload_n 0, 1) by decide +kernel) rfl (lv_at hl 0 rfl) ?_
  refine lv_iload_n hx hb (show decode code 888 = .ok (.iload_n 3, 1) by decide +kernel) rfl (lv_at hl 3 rfl) ?_
  refine lv_iconst (v := 1) hx hb (show decode code 889 = .ok (.iconst 1, 1) by decide +kernel) (by decide) ?_
  refine lv_iadd hx hb (show decode code 890 = .ok (.iadd, 1) by decide +kernel) ?_
  refine va_sld hx hb hX hbl hbA hS h1 (show decode code 891 = .ok (.iaload, 1) by decide +kernel) ?_
  refine lw_call (κ := κM) (ad := aM) (W2 := (aW ids aX κ σX1)) (P' := pX12_round) (d' := 5) (c0 := 12) (n := 0) (k := 0) [aI (xs (i + 1).toNatClampNeg)] [.int r] hx hb hml hl.1 hown hts hcs hK regM oM (List.forall_mem_cons.mpr ⟨okv_of rfl (by decide), List.forall_mem_cons.mpr ⟨trivial, (fun _ hn => absurd hn List.not_mem_nil)⟩⟩) wM wX dM ap.symm hS hA xM okp_X12_round (show decode code 892 = .ok (.invokevirtual 115, 3) by decide +kernel) (List.mem_filter.mp ml_RL_115).1 vok_X12_round (by decide) rfl nar_X12_round ⟨rfl, rfl⟩ (Nat.le_of_ble_eq_true rfl) (ok_X12_round fM) (fun o1 _ H1 locs1 v1 v2 hS => ?_)
  clear wX wM oM
  have wM := v1
  have wX := v2
  have oM := o1
  have dM := aW_D (σ' := σM1) dM
  have ap := (apart2.left (σ' := σM1) ap.symm).symm
  refine lv_icmp_eq (tgt := 1441) hx hb (show decode code 895 = .ok (.if_icmp .eq 546, 3) by decide +kernel) (by decide) (fun _ => ?_) (fun z => absurd rfl z)
  exact kk _ _ ⟨wX, wM, dX, dM, ap, hS, xX, xM, rX, oX, oM, k0⟩
