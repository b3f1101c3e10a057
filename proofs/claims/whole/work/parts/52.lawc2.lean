/-! the law: cases 24 on -/
set_option maxRecDepth 100000 in
set_option maxHeartbeats 4000000 in
theorem lwc_24 {p : Program} {l : Launch} {e : Env} {s : State} {m : MethodId} {args : Array Value} {below : List Frame} {meth : Method} {c : Code} {D : va_G} {ids : Ids} {A : Nat → Prop} {b L : Nat} {xs : Nat → Int32} (C : LC p s m args c D ids A b L xs) {aX aM : Nat → Nat} {κ : Kd} {σX σM : Sg} {H : Heap} {locs : List Loc} (B : LW s D ids A aX aM κ σX σM H locs) {cells slots : Nat} (hcs : cells ≤ room_1.cells ∧ slots ≤ room_1.slots) {ls : Array Slot} {i : Int32} (hl : lv_has ls 4 [(0, .ref b), (1, .ref (aX 0)), (2, .ref (aM 0)), (3, .int i)]) (h1 : vp_in (i + 1) L) {Q : State → Prop} {r : Int32} {σX1 σM1 : Sg} (fX : f_X11_again (xs (ix (i + 1))) σX = some (r, σX1)) (fM : f_X12_again (xs (ix (i + 1))) σM = some (r, σM1)) (kk : ∀ (H1 : Heap) (locs1 : List Loc), LW s D ids A aX aM κ σX1 σM1 H1 locs1 → W p l e room_1 s m args below meth c H1 locs1 cells slots Q (F0 m 1441 ls [])) : W p l e room_1 s m args below meth c H locs cells slots Q (F0 m 900 ls []) := by
  obtain ⟨hx, hb, hml, hown, hts, hK, hA, hX, hbl, hbA⟩ := C
  obtain ⟨wX, wM, dX, dM, ap, hS, xX, xM, rX, oX, oM, k0⟩ := B
  unfold ix at fX fM
  refine lv_aload_n hx hb (show decode code 900 = .ok (.aload_n 1, 1) by decide +kernel) rfl (lv_at hl 1 rfl) ?_
  refine lv_aload_n hx hb (show decode code 901 = .ok (.aload_n 0, 1) by decide +kernel) rfl (lv_at hl 0 rfl) ?_
  refine lv_iload_n hx hb (show decode code 902 = .ok (.iload_n 3, 1) by decide +kernel) rfl (lv_at hl 3 rfl) ?_
  refine lv_iconst (v := 1) hx hb (show decode code 903 = .ok (.iconst 1, 1) by decide +kernel) (by decide) ?_
  refine lv_iadd hx hb (show decode code 904 = .ok (.iadd, 1) by decide +kernel) ?_
  refine va_sld hx hb hX hbl hbA hS h1 (show decode code 905 = .ok (.iaload, 1) by decide +kernel) ?_
  refine lw_call (κ := κ) (ad := aX) (W2 := (aW ids aM κM σM)) (P' := pX11_again) (d' := 6) (c0 := 11) (n := 0) (k := 0) [aI (xs (i + 1).toNatClampNeg)] [] hx hb hml hl.1 hown hts hcs hK rX oX (List.forall_mem_cons.mpr ⟨okv_of k0 (by decide), List.forall_mem_cons.mpr ⟨trivial, (fun _ hn => absurd hn List.not_mem_nil)⟩⟩) wX wM dX ap hS hA xX okp_X11_again (show decode code 906 = .ok (.invokevirtual 116, 3) by decide +kernel) (List.mem_filter.mp ml_RL_116).1 vok_X11_again (by decide) rfl nar_X11_again ⟨rfl, rfl⟩ (Nat.le_of_ble_eq_true rfl) (ok_X11_again fX) (fun o1 _ H1 locs1 v1 v2 hS => ?_)
  clear wX wM oX
  have wX := v1
  have wM := v2
  have oX := o1
  have dX := aW_D (σ' := σX1) dX
  have ap := apart2.left (σ' := σX1) ap
  refine lv_aload_n hx hb (show decode code 909 = .ok (.aload_n 2, 1) by decide +kernel) rfl (lv_at hl 2 rfl) ?_
  refine lv_aload_n hx hb (show decode code 910 = .ok (.aload_n 0, 1) by decide +kernel) rfl (lv_at hl 0 rfl) ?_
  refine lv_iload_n hx hb (show decode code 911 = .ok (.iload_n 3, 1) by decide +kernel) rfl (lv_at hl 3 rfl) ?_
  refine lv_iconst (v := 1) hx hb (show decode code 912 = .ok (.iconst 1, 1) by decide +kernel) (by decide) ?_
  refine lv_iadd hx hb (show decode code 913 = .ok (.iadd, 1) by decide +kernel) ?_
  refine va_sld hx hb hX hbl hbA hS h1 (show decode code 914 = .ok (.iaload, 1) by decide +kernel) ?_
  refine lw_call (κ := κM) (ad := aM) (W2 := (aW ids aX κ σX1)) (P' := pX12_again) (d' := 5) (c0 := 12) (n := 0) (k := 0) [aI (xs (i + 1).toNatClampNeg)] [.int r] hx hb hml hl.1 hown hts hcs hK regM oM (List.forall_mem_cons.mpr ⟨okv_of rfl (by decide), List.forall_mem_cons.mpr ⟨trivial, (fun _ hn => absurd hn List.not_mem_nil)⟩⟩) wM wX dM ap.symm hS hA xM okp_X12_again (show decode code 915 = .ok (.invokevirtual 119, 3) by decide +kernel) (List.mem_filter.mp ml_RL_119).1 vok_X12_again (by decide) rfl nar_X12_again ⟨rfl, rfl⟩ (Nat.le_of_ble_eq_true rfl) (ok_X12_again fM) (fun o1 _ H1 locs1 v1 v2 hS => ?_)
  clear wX wM oM
  have wM := v1
  have wX := v2
  have oM := o1
  have dM := aW_D (σ' := σM1) dM
  have ap := (apart2.left (σ' := σM1) ap.symm).symm
  refine lv_icmp_eq (tgt := 1441) hx hb (show decode code 918 = .ok (.if_icmp .eq 523, 3) by decide +kernel) (by decide) (fun _ => ?_) (fun z => absurd rfl z)
  exact kk _ _ ⟨wX, wM, dX, dM, ap, hS, xX, xM, rX, oX, oM, k0⟩
set_option maxRecDepth 100000 in
set_option maxHeartbeats 4000000 in
theorem lwc_25 {p : Program} {l : Launch} {e : Env} {s : State} {m : MethodId} {args : Array Value} {below : List Frame} {meth : Method} {c : Code} {D : va_G} {ids : Ids} {A : Nat → Prop} {b L : Nat} {xs : Nat → Int32} (C : LC p s m args c D ids A b L xs) {aX aM : Nat → Nat} {κ : Kd} {σX σM : Sg} {H : Heap} {locs : List Loc} (B : LW s D ids A aX aM κ σX σM H locs) {cells slots : Nat} (hcs : cells ≤ room_1.cells ∧ slots ≤ room_1.slots) {ls : Array Slot} {i : Int32} (hl : lv_has ls 4 [(0, .ref b), (1, .ref (aX 0)), (2, .ref (aM 0)), (3, .int i)]) (h1 : vp_in (i + 1) L) (h2 : vp_in (i + 2) L) {Q : State → Prop} {r : Int32} {σX1 σM1 : Sg} (fX : f_X11_warmth (xs (ix (i + 1))) (xs (ix (i + 2))) σX = some (r, σX1)) (fM : f_X12_warmth (xs (ix (i + 1))) (xs (ix (i + 2))) σM = some (r, σM1)) (kk : ∀ (H1 : Heap) (locs1 : List Loc), LW s D ids A aX aM κ σX1 σM1 H1 locs1 → W p l e room_1 s m args below meth c H1 locs1 cells slots Q (F0 m 1441 ls [])) : W p l e room_1 s m args below meth c H locs cells slots Q (F0 m 923 ls []) := by
  obtain ⟨hx, hb, hml, hown, hts, hK, hA, hX, hbl, hbA⟩ := C
  obtain ⟨wX, wM, dX, dM, ap, hS, xX, xM, rX, oX, oM, k0⟩ := B
  unfold ix at fX fM
  refine lv_aload_n hx hb (show decode code 923 = .ok (.aload_n 1, 1) by decide +kernel) rfl (lv_at hl 1 rfl) ?_
  refine lv_aload_n hx hb (show decode code 924 = .ok (.aload_n 0, 1) by decide +kernel) rfl (lv_at hl 0 rfl) ?_
  refine lv_iload_n hx hb (show decode code 925 = .ok (.iload_n 3, 1) by decide +kernel) rfl (lv_at hl 3 rfl) ?_
  refine lv_iconst (v := 1) hx hb (show decode code 926 = .ok (.iconst 1, 1) by decide +kernel) (by decide) ?_
  refine lv_iadd hx hb (show decode code 927 = .ok (.iadd, 1) by decide +kernel) ?_
  refine va_sld hx hb hX hbl hbA hS h1 (show decode code 928 = .ok (.iaload, 1) by decide +kernel) ?_
  refine lv_aload_n hx hb (show decode code 929 = .ok (.aload_n 0, 1) by decide +kernel) rfl (lv_at hl 0 rfl) ?_
  refine lv_iload_n hx hb (show decode code 930 = .ok (.iload_n 3, 1) by decide +kernel) rfl (lv_at hl 3 rfl) ?_
  refine lv_iconst (v := 2) hx hb (show decode code 931 = .ok (.iconst 2, 1) by decide +kernel) (by decide) ?_
  refine lv_iadd hx hb (show decode code 932 = .ok (.iadd, 1) by decide +kernel) ?_
  refine va_sld hx hb hX hbl hbA hS h2 (show decode code 933 = .ok (.iaload, 1) by decide +kernel) ?_
  refine lw_call (κ := κ) (ad := aX) (W2 := (aW ids aM κM σM)) (P' := pX11_warmth) (d' := 2) (c0 := 11) (n := 0) (k := 0) [aI (xs (i + 1).toNatClampNeg), aI (xs (i + 2).toNatClampNeg)] [] hx hb hml hl.1 hown hts hcs hK rX oX (List.forall_mem_cons.mpr ⟨okv_of k0 (by decide), List.forall_mem_cons.mpr ⟨trivial, List.forall_mem_cons.mpr ⟨trivial, (fun _ hn => absurd hn List.not_mem_nil)⟩⟩⟩) wX wM dX ap hS hA xX okp_X11_warmth (show decode code 934 = .ok (.invokevirtual 120, 3) by decide +kernel) (List.mem_filter.mp ml_RL_120).1 vok_X11_warmth (by decide) rfl nar_X11_warmth ⟨rfl, rfl⟩ (Nat.le_of_ble_eq_true rfl) (ok_X11_warmth fX) (fun o1 _ H1 locs1 v1 v2 hS => ?_)
  clear wX wM oX
  have wX := v1
  have wM := v2
  have oX := o1
  have dX := aW_D (σ' := σX1) dX
  have ap := apart2.left (σ' := σX1) ap
  refine lv_aload_n hx hb (show decode code 937 = .ok (.aload_n 2, 1) by decide +kernel) rfl (lv_at hl 2 rfl) ?_
  refine lv_aload_n hx hb (show decode code 938 = .ok (.aload_n 0, 1) by decide +kernel) rfl (lv_at hl 0 rfl) ?_
  refine lv_iload_n hx hb (show decode code 939 = .ok (.iload_n 3, 1) by decide +kernel) rfl (lv_at hl 3 rfl) ?_
  refine lv_iconst (v := 1) hx hb (show decode code 940 = .ok (.iconst 1, 1) by decide +kernel) (by decide) ?_
  refine lv_iadd hx hb (show decode code 941 = .ok (.iadd, 1) by decide +kernel) ?_
  refine va_sld hx hb hX hbl hbA hS h1 (show decode code 942 = .ok (.iaload, 1) by decide +kernel) ?_
  refine lv_aload_n hx hb (show decode code 943 = .ok (.aload_n 0, 1) by decide +kernel) rfl (lv_at hl 0 rfl) ?_
  refine lv_iload_n hx hb (show decode code 944 = .ok (.iload_n 3, 1) by decide +kernel) rfl (lv_at hl 3 rfl) ?_
  refine lv_iconst (v := 2) hx hb (show decode code 945 = .ok (.iconst 2, 1) by decide +kernel) (by decide) ?_
  refine lv_iadd hx hb (show decode code 946 = .ok (.iadd, 1) by decide +kernel) ?_
  refine va_sld hx hb hX hbl hbA hS h2 (show decode code 947 = .ok (.iaload, 1) by decide +kernel) ?_
  refine lw_call (κ := κM) (ad := aM) (W2 := (aW ids aX κ σX1)) (P' := pX12_warmth) (d' := 2) (c0 := 12) (n := 0) (k := 0) [aI (xs (i + 1).toNatClampNeg), aI (xs (i + 2).toNatClampNeg)] [.int r] hx hb hml hl.1 hown hts hcs hK regM oM (List.forall_mem_cons.mpr ⟨okv_of rfl (by decide), List.forall_mem_cons.mpr ⟨trivial, List.forall_mem_cons.mpr ⟨trivial, (fun _ hn => absurd hn List.not_mem_nil)⟩⟩⟩) wM wX dM ap.symm hS hA xM okp_X12_warmth (show decode code 948 = .ok (.invokevirtual 124, 3) by decide +kernel) (List.mem_filter.mp ml_RL_124).1 vok_X12_warmth (by decide) rfl nar_X12_warmth ⟨rfl, rfl⟩ (Nat.le_of_ble_eq_true rfl) (ok_X12_warmth fM) (fun o1 _ H1 locs1 v1 v2 hS => ?_)
  clear wX wM oM
  have wM := v1
  have wX := v2
  have oM := o1
  have dM := aW_D (σ' := σM1) dM
  have ap := (apart2.left (σ' := σM1) ap.symm).symm
  refine lv_icmp_eq (tgt := 1441) hx hb (show decode code 951 = .ok (.if_icmp .eq 490, 3) by decide +kernel) (by decide) (fun _ => ?_) (fun z => absurd rfl z)
  exact kk _ _ ⟨wX, wM, dX, dM, ap, hS, xX, xM, rX, oX, oM, k0⟩
set_option maxRecDepth 100000 in
set_option maxHeartbeats 4000000 in
theorem lwc_26 {p : Program} {l : Launch} {e : Env} {s : State} {m : MethodId} {args : Array Value} {below : List Frame} {meth : Method} {c : Code} {D : va_G} {ids : Ids} {A : Nat → Prop} {b L : Nat} {xs : Nat → Int32} (C : LC p s m args c D ids A b L xs) {aX aM : Nat → Nat} {κ : Kd} {σX σM : Sg} {H : Heap} {locs : List Loc} (B : LW s D ids A aX aM κ σX σM H locs) {cells slots : Nat} (hcs : cells ≤ room_1.cells ∧ slots ≤ room_1.slots) {ls : Array Slot} {i : Int32} (hl : lv_has ls 4 [(0, .ref b), (1, .ref (aX 0)), (2, .ref (aM 0)), (3, .int i)]) (h1 : vp_in (i + 1) L) {Q : State → Prop} {r : Int32} {σX1 σM1 : Sg} (fX : f_X11_ring (xs (ix (i + 1))) σX = some (r, σX1)) (fM : f_X12_ring (xs (ix (i + 1))) σM = some (r, σM1)) (kk : ∀ (H1 : Heap) (locs1 : List Loc), LW s D ids A aX aM κ σX1 σM1 H1 locs1 → W p l e room_1 s m args below meth c H1 locs1 cells slots Q (F0 m 1441 ls [])) : W p l e room_1 s m args below meth c H locs cells slots Q (F0 m 956 ls []) := by
  obtain ⟨hx, hb, hml, hown, hts, hK, hA, hX, hbl, hbA⟩ := C
  obtain ⟨wX, wM, dX, dM, ap, hS, xX, xM, rX, oX, oM, k0⟩ := B
  unfold ix at fX fM
  refine lv_aload_n hx hb (show decode code 956 = .ok (.aload_n 1, 1) by decide +kernel) rfl (lv_at hl 1 rfl) ?_
  refine lv_aload_n hx hb (show decode code 957 = .ok (.aload_n 0, 1) by decide +kernel) rfl (lv_at hl 0 rfl) ?_
  refine lv_iload_n hx hb (show decode code 958 = .ok (.iload_n 3, 1) by decide +kernel) rfl (lv_at hl 3 rfl) ?_
  refine lv_iconst (v := 1) hx hb (show decode code 959 = .ok (.iconst 1, 1) by decide +kernel) (by decide) ?_
  refine lv_iadd hx hb (show decode code 960 = .ok (.iadd, 1) by decide +kernel) ?_
  refine va_sld hx hb hX hbl hbA hS h1 (show decode code 961 = .ok (.iaload, 1) by decide +kernel) ?_
  refine lw_call (κ := κ) (ad := aX) (W2 := (aW ids aM κM σM)) (P' := pX11_ring) (d' := 2) (c0 := 11) (n := 0) (k := 0) [aI (xs (i + 1).toNatClampNeg)] [] hx hb hml hl.1 hown hts hcs hK rX oX (List.forall_mem_cons.mpr ⟨okv_of k0 (by decide), List.forall_mem_cons.mpr ⟨trivial, (fun _ hn => absurd hn List.not_mem_nil)⟩⟩) wX wM dX ap hS hA xX okp_X11_ring (show decode code 962 = .ok (.invokevirtual 125, 3) by decide +kernel) (List.mem_filter.mp ml_RL_125).1 vok_X11_ring (by decide) rfl nar_X11_ring ⟨rfl, rfl⟩ (Nat.le_of_ble_eq_true rfl) (ok_X11_ring fX) (fun o1 _ H1 locs1 v1 v2 hS => ?_)
  clear wX wM oX
  have wX := v1
  have wM := v2
  have oX := o1
  have dX := aW_D (σ' := σX1) dX
  have ap := apart2.left (σ' := σX1) ap
  refine lv_aload_n hx hb (show decode code 965 = .ok (.aload_n 2, 1) by decide +kernel) rfl (lv_at hl 2 rfl) ?_
  refine lv_aload_n hx hb (show decode code 966 = .ok (.aload_n 0, 1) by decide +kernel) rfl (lv_at hl 0 rfl) ?_
  refine lv_iload_n hx hb (show decode code 967 = .ok (.iload_n 3, 1) by decide +kernel) rfl (lv_at hl 3 rfl) ?_
  refine lv_iconst (v := 1) hx hb (show decode code 968 = .ok (.iconst 1, 1) by decide +kernel) (by decide) ?_
  refine lv_iadd hx hb (show decode code 969 = .ok (.iadd, 1) by decide +kernel) ?_
  refine va_sld hx hb hX hbl hbA hS h1 (show decode code 970 = .ok (.iaload, 1) by decide +kernel) ?_
  refine lw_call (κ := κM) (ad := aM) (W2 := (aW ids aX κ σX1)) (P' := pX12_ring) (d' := 2) (c0 := 12) (n := 0) (k := 0) [aI (xs (i + 1).toNatClampNeg)] [.int r] hx hb hml hl.1 hown hts hcs hK regM oM (List.forall_mem_cons.mpr ⟨okv_of rfl (by decide), List.forall_mem_cons.mpr ⟨trivial, (fun _ hn => absurd hn List.not_mem_nil)⟩⟩) wM wX dM ap.symm hS hA xM okp_X12_ring (show decode code 971 = .ok (.invokevirtual 128, 3) by decide +kernel) (List.mem_filter.mp ml_RL_128).1 vok_X12_ring (by decide) rfl nar_X12_ring ⟨rfl, rfl⟩ (Nat.le_of_ble_eq_true rfl) (ok_X12_ring fM) (fun o1 _ H1 locs1 v1 v2 hS => ?_)
  clear wX wM oM
  have wM := v1
  have wX := v2
  have oM := o1
  have dM := aW_D (σ' := σM1) dM
  have ap := (apart2.left (σ' := σM1) ap.symm).symm
  refine lv_icmp_eq (tgt := 1441) hx hb (show decode code 974 = .ok (.if_icmp .eq 467, 3) by decide +kernel) (by decide) (fun _ => ?_) (fun z => absurd rfl z)
  exact kk _ _ ⟨wX, wM, dX, dM, ap, hS, xX, xM, rX, oX, oM, k0⟩
set_option maxRecDepth 100000 in
set_option maxHeartbeats 4000000 in
theorem lwc_27 {p : Program} {l : Launch} {e : Env} {s : State} {m : MethodId} {args : Array Value} {below : List Frame} {meth : Method} {c : Code} {D : va_G} {ids : Ids} {A : Nat → Prop} {b L : Nat} {xs : Nat → Int32} (C : LC p s m args c D ids A b L xs) {aX aM : Nat → Nat} {κ : Kd} {σX σM : Sg} {H : Heap} {locs : List Loc} (B : LW s D ids A aX aM κ σX σM H locs) {cells slots : Nat} (hcs : cells ≤ room_1.cells ∧ slots ≤ room_1.slots) {ls : Array Slot} {i : Int32} (hl : lv_has ls 4 [(0, .ref b), (1, .ref (aX 0)), (2, .ref (aM 0)), (3, .int i)]) (h1 : vp_in (i + 1) L) (h2 : vp_in (i + 2) L) {Q : State → Prop} {r : Int32} {σX1 σM1 : Sg} (fX : f_X11_dawn (xs (ix (i + 1))) (xs (ix (i + 2))) σX = some (r, σX1)) (fM : f_X12_dawn (xs (ix (i + 1))) (xs (ix (i + 2))) σM = some (r, σM1)) (kk : ∀ (H1 : Heap) (locs1 : List Loc), LW s D ids A aX aM κ σX1 σM1 H1 locs1 → W p l e room_1 s m args below meth c H1 locs1 cells slots Q (F0 m 1441 ls [])) : W p l e room_1 s m args below meth c H locs cells slots Q (F0 m 979 ls []) := by
  obtain ⟨hx, hb, hml, hown, hts, hK, hA, hX, hbl, hbA⟩ := C
  obtain ⟨wX, wM, dX, dM, ap, hS, xX, xM, rX, oX, oM, k0⟩ := B
  unfold ix at fX fM
  refine lv_aload_n hx hb (show decode code 979 = .ok (.aload_n 1, 1) by decide +kernel) rfl (lv_at hl 1 rfl) ?_
  refine lv_aload_n hx hb (show decode code 980 = .ok (.aload_n 0, 1) by decide +kernel) rfl (lv_at hl 0 rfl) ?_
  refine lv_iload_n hx hb (show decode code 981 = .ok (.iload_n 3, 1) by decide +kernel) rfl (lv_at hl 3 rfl) ?_
  refine lv_iconst (v := 1) hx hb (show decode code 982 = .ok (.iconst 1, 1) by decide +kernel) (by decide) ?_
  refine lv_iadd hx hb (show decode code 983 = .ok (.iadd, 1) by decide +kernel) ?_
  refine va_sld hx hb hX hbl hbA hS h1 (show decode code 984 = .ok (.iaload, 1) by decide +kernel) ?_
  refine lv_aload_n hx hb (show decode code 985 = .ok (.aload_n 0, 1) by decide +kernel) rfl (lv_at hl 0 rfl) ?_
  refine lv_iload_n hx hb (show decode code 986 = .ok (.iload_n 3, 1) by decide +kernel) rfl (lv_at hl 3 rfl) ?_
  refine lv_iconst (v := 2) hx hb (show decode code 987 = .ok (.iconst 2, 1) by decide +kernel) (by decide) ?_
  refine lv_iadd hx hb (show decode code 988 = .ok (.iadd, 1) by decide +kernel) ?_
  refine va_sld hx hb hX hbl hbA hS h2 (show decode code 989 = .ok (.iaload, 1) by decide +kernel) ?_
  refine lw_call (κ := κ) (ad := aX) (W2 := (aW ids aM κM σM)) (P' := pX11_dawn) (d' := 204) (c0 := 11) (n := 0) (k := 0) [aI (xs (i + 1).toNatClampNeg), aI (xs (i + 2).toNatClampNeg)] [] hx hb hml hl.1 hown hts hcs hK rX oX (List.forall_mem_cons.mpr ⟨okv_of k0 (by decide), List.forall_mem_cons.mpr ⟨trivial, List.forall_mem_cons.mpr ⟨trivial, (fun _ hn => absurd hn List.not_mem_nil)⟩⟩⟩) wX wM dX ap hS hA xX okp_X11_dawn (show decode code 990 = .ok (.invokevirtual 129, 3) by decide +kernel) (List.mem_filter.mp ml_RL_129).1 vok_X11_dawn (by decide) rfl nar_X11_dawn ⟨rfl, rfl⟩ (Nat.le_of_ble_eq_true rfl) (ok_X11_dawn fX) (fun o1 _ H1 locs1 v1 v2 hS => ?_)
  clear wX wM oX
  have wX := v1
  have wM := v2
  have oX := o1
  have dX := aW_D (σ' := σX1) dX
  have ap := apart2.left (σ' := σX1) ap
  refine lv_aload_n hx hb (show decode code 993 = .ok (.aload_n 2, 1) by decide +kernel) rfl (lv_at hl 2 rfl) ?_
  refine lv_aload_n hx hb (show decode code 994 = .ok (.aload_n 0, 1) by decide +kernel) rfl (lv_at hl 0 rfl) ?_
  refine lv_iload_n hx hb (show decode code 995 = .ok (.iload_n 3, 1) by decide +kernel) rfl (lv_at hl 3 rfl) ?_
  refine lv_iconst (v := 1) hx hb (show decode code 996 = .ok (.iconst 1, 1) by decide +kernel) (by decide) ?_
  refine lv_iadd hx hb (show decode code 997 = .ok (.iadd, 1) by decide +kernel) ?_
  refine va_sld hx hb hX hbl hbA hS h1 (show decode code 998 = .ok (.iaload, 1) by decide +kernel) ?_
  refine lv_aload_n hx hb (show decode code 999 = .ok (.aload_n 0, 1) by decide +kernel) rfl (lv_at hl 0 rfl) ?_
  refine lv_iload_n hx hb (show decode code 1000 = .ok (.iload_n 3, 1) by decide +kernel) rfl (lv_at hl 3 rfl) ?_
  refine lv_iconst (v := 2) hx hb (show decode code 1001 = .ok (.iconst 2, 1) by decide +kernel) (by decide) ?_
  refine lv_iadd hx hb (show decode code 1002 = .ok (.iadd, 1) by decide +kernel) ?_
  refine va_sld hx hb hX hbl hbA hS h2 (show decode code 1003 = .ok (.iaload, 1) by decide +kernel) ?_
  refine lw_call (κ := κM) (ad := aM) (W2 := (aW ids aX κ σX1)) (P' := pX12_dawn) (d' := 5) (c0 := 12) (n := 0) (k := 0) [aI (xs (i + 1).toNatClampNeg), aI (xs (i + 2).toNatClampNeg)] [.int r] hx hb hml hl.1 hown hts hcs hK regM oM (List.forall_mem_cons.mpr ⟨okv_of rfl (by decide), List.forall_mem_cons.mpr ⟨trivial, List.forall_mem_cons.mpr ⟨trivial, (fun _ hn => absurd hn List.not_mem_nil)⟩⟩⟩) wM wX dM ap.symm hS hA xM okp_X12_dawn (show decode code 1004 = .ok (.invokevirtual 132, 3) by decide +kernel) (List.mem_filter.mp ml_RL_132).1 vok_X12_dawn (by decide) rfl nar_X12_dawn ⟨rfl, rfl⟩ (Nat.le_of_ble_eq_true rfl) (ok_X12_dawn fM) (fun o1 _ H1 locs1 v1 v2 hS => ?_)
  clear wX wM oM
  have wM := v1
  have wX := v2
  have oM := o1
  have dM := aW_D (σ' := σM1) dM
  have ap := (apart2.left (σ' := σM1) ap.symm).symm
  refine lv_icmp_eq (tgt := 1441) hx hb (show decode code 1007 = .ok (.if_icmp .eq 434, 3) by decide +kernel) (by decide) (fun _ => ?_) (fun z => absurd rfl z)
  exact kk _ _ ⟨wX, wM, dX, dM, ap, hS, xX, xM, rX, oX, oM, k0⟩
set_option maxRecDepth 100000 in
set_option maxHeartbeats 4000000 in
theorem lwc_28 {p : Program} {l : Launch} {e : Env} {s : State} {m : MethodId} {args : Array Value} {below : List Frame} {meth : Method} {c : Code} {D : va_G} {ids : Ids} {A : Nat → Prop} {b L : Nat} {xs : Nat → Int32} (C : LC p s m args c D ids A b L xs) {aX aM : Nat → Nat} {κ : Kd} {σX σM : Sg} {H : Heap} {locs : List Loc} (B : LW s D ids A aX aM κ σX σM H locs) {cells slots : Nat} (hcs : cells ≤ room_1.cells ∧ slots ≤ room_1.slots) {ls : Array Slot} {i : Int32} (hl : lv_has ls 4 [(0, .ref b), (1, .ref (aX 0)), (2, .ref (aM 0)), (3, .int i)]) (h1 : vp_in (i + 1) L) {Q : State → Prop} {r : Int32} {σX1 σM1 : Sg} (fX : f_X11_chain (xs (ix (i + 1))) σX = some (r, σX1)) (fM : f_X12_chain (xs (ix (i + 1))) σM = some (r, σM1)) (kk : ∀ (H1 : Heap) (locs1 : List Loc), LW s D ids A aX aM κ σX1 σM1 H1 locs1 → W p l e room_1 s m args below meth c H1 locs1 cells slots Q (F0 m 1441 ls [])) : W p l e room_1 s m args below meth c H locs cells slots Q (F0 m 1012 ls []) := by
  obtain ⟨hx, hb, hml, hown, hts, hK, hA, hX, hbl, hbA⟩ := C
  obtain ⟨wX, wM, dX, dM, ap, hS, xX, xM, rX, oX, oM, k0⟩ := B
  unfold ix at fX fM
  refine lv_aload_n hx hb (show decode code 1012 = .ok (.aload_n 1, 1) by decide +kernel) rfl (lv_at hl 1 rfl) ?_
  refine lv_aload_n hx hb (show decode code 1013 = .ok (.aload_n 0, 1) by decide +kernel) rfl (lv_at hl 0 rfl) ?_
  refine lv_iload_n hx hb (show decode code 1014 = .ok (.iload_n 3, 1) by decide +kernel) rfl (lv_at hl 3 rfl) ?_
  refine lv_iconst (v := 1) hx hb (show decode code 1015 = .ok (.iconst 1, 1) by decide +kernel) (by decide) ?_
  refine lv_iadd hx hb (show decode code 1016 = .ok (.iadd, 1) by decide +kernel) ?_
  refine va_sld hx hb hX hbl hbA hS h1 (show decode code 1017 = .ok (.iaload, 1) by decide +kernel) ?_
  refine lw_call (κ := κ) (ad := aX) (W2 := (aW ids aM κM σM)) (P' := pX11_chain) (d' := 3) (c0 := 11) (n := 0) (k := 0) [aI (xs (i + 1).toNatClampNeg)] [] hx hb hml hl.1 hown hts hcs hK rX oX (List.forall_mem_cons.mpr ⟨okv_of k0 (by decide), List.forall_mem_cons.mpr ⟨trivial, (fun _ hn => absurd hn List.not_mem_nil)⟩⟩) wX wM dX ap hS hA xX okp_X11_chain (show decode code 1018 = .ok (.invokevirtual 133, 3) by decide +kernel) (List.mem_filter.mp ml_RL_133).1 vok_X11_chain (by decide) rfl nar_X11_chain ⟨rfl, rfl⟩ (Nat.le_of_ble_eq_true rfl) (ok_X11_chain fX) (fun o1 _ H1 locs1 v1 v2 hS => ?_)
  clear wX wM oX
  have wX := v1
  have wM := v2
  have oX := o1
  have dX := aW_D (σ' := σX1) dX
  have ap := apart2.left (σ' := σX1) ap
  refine lv_aload_n hx hb (show decode code 1021 = .ok (.aload_n 2, 1) by decide +kernel) rfl (lv_at hl 2 rfl) ?_
  refine lv_aload_n hx hb (show decode code 1022 = .ok (.aload_n 0, 1) by decide +kernel) rfl (lv_at hl 0 rfl) ?_
  refine lv_iload_n hx hb (show decode code 1023 = .ok (.iload_n 3, 1) by decide +kernel) rfl (lv_at hl 3 rfl) ?_
  refine lv_iconst (v := 1) hx hb (show decode code 1024 = .ok (.iconst 1, 1) by decide +kernel) (by decide) ?_
  refine lv_iadd hx hb (show decode code 1025 = .ok (.iadd, 1) by decide +kernel) ?_
  refine va_sld hx hb hX hbl hbA hS h1 (show decode code 1026 = .ok (.iaload, 1) by decide +kernel) ?_
  refine lw_call (κ := κM) (ad := aM) (W2 := (aW ids aX κ σX1)) (P' := pX12_chain) (d' := 4) (c0 := 12) (n := 0) (k := 0) [aI (xs (i + 1).toNatClampNeg)] [.int r] hx hb hml hl.1 hown hts hcs hK regM oM (List.forall_mem_cons.mpr ⟨okv_of rfl (by decide), List.forall_mem_cons.mpr ⟨trivial, (fun _ hn => absurd hn List.not_mem_nil)⟩⟩) wM wX dM ap.symm hS hA xM okp_X12_chain (show decode code 1027 = .ok (.invokevirtual 136, 3) by decide +kernel) (List.mem_filter.mp ml_RL_136).1 vok_X12_chain (by decide) rfl nar_X12_chain ⟨rfl, rfl⟩ (Nat.le_of_ble_eq_true rfl) (ok_X12_chain fM) (fun o1 _ H1 locs1 v1 v2 hS => ?_)
  clear wX wM oM
  have wM := v1
  have wX := v2
  have oM := o1
  have dM := aW_D (σ' := σM1) dM
  have ap := (apart2.left (σ' := σM1) ap.symm).symm
  refine lv_icmp_eq (tgt := 1441) hx hb (show decode code 1030 = .ok (.if_icmp .eq 411, 3) by decide +kernel) (by decide) (fun _ => ?_) (fun z => absurd rfl z)
  exact kk _ _ ⟨wX, wM, dX, dM, ap, hS, xX, xM, rX, oX, oM, k0⟩
set_option maxRecDepth 100000 in
set_option maxHeartbeats 4000000 in
theorem lwc_29 {p : Program} {l : Launch} {e : Env} {s : State} {m : MethodId} {args : Array Value} {below : List Frame} {meth : Method} {c : Code} {D : va_G} {ids : Ids} {A : Nat → Prop} {b L : Nat} {xs : Nat → Int32} (C : LC p s m args c D ids A b L xs) {aX aM : Nat → Nat} {κ : Kd} {σX σM : Sg} {H : Heap} {locs : List Loc} (B : LW s D ids A aX aM κ σX σM H locs) {cells slots : Nat} (hcs : cells ≤ room_1.cells ∧ slots ≤ room_1.slots) {ls : Array Slot} {i : Int32} (hl : lv_has ls 4 [(0, .ref b), (1, .ref (aX 0)), (2, .ref (aM 0)), (3, .int i)]) (h1 : vp_in (i + 1) L) (h2 : vp_in (i + 2) L) {Q : State → Prop} {r : Int32} {σX1 σM1 : Sg} (fX : f_X11_stone (xs (ix (i + 1))) (zb (xs (ix (i + 2)))) σX = some (r, σX1)) (fM : f_X12_stone (xs (ix (i + 1))) (zb (xs (ix (i + 2)))) σM = some (r, σM1)) (kk : ∀ (H1 : Heap) (locs1 : List Loc), LW s D ids A aX aM κ σX1 σM1 H1 locs1 → W p l e room_1 s m args below meth c H1 locs1 cells slots Q (F0 m 1441 ls [])) : W p l e room_1 s m args below meth c H locs cells slots Q (F0 m 1035 ls []) := by
  obtain ⟨hx, hb, hml, hown, hts, hK, hA, hX, hbl, hbA⟩ := C
  obtain ⟨wX, wM, dX, dM, ap, hS, xX, xM, rX, oX, oM, k0⟩ := B
  unfold ix at fX fM
  by_cases cz : xs (i + 2).toNatClampNeg = 0
  · rw [show zb (xs (i + 2).toNatClampNeg) = 0 from if_pos cz] at fX fM
    refine lv_aload_n hx hb (show decode code 1035 = .ok (.aload_n 1, 1) by decide +kernel) rfl (lv_at hl 1 rfl) ?_
    refine lv_aload_n hx hb (show decode code 1036 = .ok (.aload_n 0, 1) by decide +kernel) rfl (lv_at hl 0 rfl) ?_
    refine lv_iload_n hx hb (show decode code 1037 = .ok (.iload_n 3, 1) by decide +kernel) rfl (lv_at hl 3 rfl) ?_
    refine lv_iconst (v := 1) hx hb (show decode code 1038 = .ok (.iconst 1, 1) by decide +kernel) (by decide) ?_
    refine lv_iadd hx hb (show decode code 1039 = .ok (.iadd, 1) by decide +kernel) ?_
    refine va_sld hx hb hX hbl hbA hS h1 (show decode code 1040 = .ok (.iaload, 1) by decide +kernel) ?_
    refine lv_aload_n hx hb (show decode code 1041 = .ok (.aload_n 0, 1) by decide +kernel) rfl (lv_at hl 0 rfl) ?_
    refine lv_iload_n hx hb (show decode code 1042 = .ok (.iload_n 3, 1) by decide +kernel) rfl (lv_at hl 3 rfl) ?_
    refine lv_iconst (v := 2) hx hb (show decode code 1043 = .ok (.iconst 2, 1) by decide +kernel) (by decide) ?_
    refine lv_iadd hx hb (show decode code 1044 = .ok (.iadd, 1) by decide +kernel) ?_
    refine va_sld hx hb hX hbl hbA hS h2 (show decode code 1045 = .ok (.iaload, 1) by decide +kernel) ?_
    refine lv_if_eq (tgt := 1053) hx hb (show decode code 1046 = .ok (.ifCond .eq 7, 3) by decide +kernel) (by decide) (fun _ => ?_) (fun z => absurd cz z)
    refine lv_iconst (v := 0) hx hb (show decode code 1053 = .ok (.iconst 0, 1) by decide +kernel) (by decide) ?_
    refine lw_call (κ := κ) (ad := aX) (W2 := (aW ids aM κM σM)) (P' := pX11_stone) (d' := 5) (c0 := 11) (n := 0) (k := 0) [aI (xs (i + 1).toNatClampNeg), aI 0] [] hx hb hml hl.1 hown hts hcs hK rX oX (List.forall_mem_cons.mpr ⟨okv_of k0 (by decide), List.forall_mem_cons.mpr ⟨trivial, List.forall_mem_cons.mpr ⟨trivial, (fun _ hn => absurd hn List.not_mem_nil)⟩⟩⟩) wX wM dX ap hS hA xX okp_X11_stone (show decode code 1054 = .ok (.invokevirtual 137, 3) by decide +kernel) (List.mem_filter.mp ml_RL_137).1 vok_X11_stone (by decide) rfl nar_X11_stone ⟨rfl, rfl⟩ (Nat.le_of_ble_eq_true rfl) (ok_X11_stone fX) (fun o1 _ H1 locs1 v1 v2 hS => ?_)
    clear wX wM oX
    have wX := v1
    have wM := v2
    have oX := o1
    have dX := aW_D (σ' := σX1) dX
    have ap := apart2.left (σ' := σX1) ap
    refine lv_aload_n hx hb (show decode code 1057 = .ok (.aload_n 2, 1) by decide +kernel) rfl (lv_at hl 2 rfl) ?_
    refine lv_aload_n hx hb (show decode code 1058 = .ok (.aload_n 0, 1) by decide +kernel) rfl (lv_at hl 0 rfl) ?_
    refine lv_iload_n hx hb (show decode code 1059 = .ok (.iload_n 3, 1) by decide +kernel) rfl (lv_at hl 3 rfl) ?_
    refine lv_iconst (v := 1) hx hb (show decode code 1060 = .ok (.iconst 1, 1) by decide +kernel) (by decide) ?_
    refine lv_iadd hx hb (show decode code 1061 = .ok (.iadd, 1) by decide +kernel) ?_
    refine va_sld hx hb hX hbl hbA hS h1 (show decode code 1062 = .ok (.iaload, 1) by decide +kernel) ?_
    refine lv_aload_n hx hb (show decode code 1063 = .ok (.aload_n 0, 1) by decide +kernel) rfl (lv_at hl 0 rfl) ?_
    refine lv_iload_n hx hb (show decode code 1064 = .ok (.iload_n 3, 1) by decide +kernel) rfl (lv_at hl 3 rfl) ?_
    refine lv_iconst (v := 2) hx hb (show decode code 1065 = .ok (.iconst 2, 1) by decide +kernel) (by decide) ?_
    refine lv_iadd hx hb (show decode code 1066 = .ok (.iadd, 1) by decide +kernel) ?_
    refine va_sld hx hb hX hbl hbA hS h2 (show decode code 1067 = .ok (.iaload, 1) by decide +kernel) ?_
    refine lv_if_eq (tgt := 1075) hx hb (show decode code 1068 = .ok (.ifCond .eq 7, 3) by decide +kernel) (by decide) (fun _ => ?_) (fun z => absurd cz z)
    refine lv_iconst (v := 0) hx hb (show decode code 1075 = .ok (.iconst 0, 1) by decide +kernel) (by decide) ?_
    refine lw_call (κ := κM) (ad := aM) (W2 := (aW ids aX κ σX1)) (P' := pX12_stone) (d' := 5) (c0 := 12) (n := 0) (k := 0) [aI (xs (i + 1).toNatClampNeg), aI 0] [.int r] hx hb hml hl.1 hown hts hcs hK regM oM (List.forall_mem_cons.mpr ⟨okv_of rfl (by decide), List.forall_mem_cons.mpr ⟨trivial, List.forall_mem_cons.mpr ⟨trivial, (fun _ hn => absurd hn List.not_mem_nil)⟩⟩⟩) wM wX dM ap.symm hS hA xM okp_X12_stone (show decode code 1076 = .ok (.invokevirtual 141, 3) by decide +kernel) (List.mem_filter.mp ml_RL_141).1 vok_X12_stone (by decide) rfl nar_X12_stone ⟨rfl, rfl⟩ (Nat.le_of_ble_eq_true rfl) (ok_X12_stone fM) (fun o1 _ H1 locs1 v1 v2 hS => ?_)
    clear wX wM oM
    have wM := v1
    have wX := v2
    have oM := o1
    have dM := aW_D (σ' := σM1) dM
    have ap := (apart2.left (σ' := σM1) ap.symm).symm
    refine lv_icmp_eq (tgt := 1441) hx hb (show decode code 1079 = .ok (.if_icmp .eq 362, 3) by decide +kernel) (by decide) (fun _ => ?_) (fun z => absurd rfl z)
    exact kk _ _ ⟨wX, wM, dX, dM, ap, hS, xX, xM, rX, oX, oM, k0⟩
  · rw [show zb (xs (i + 2).toNatClampNeg) = 1 from if_neg cz] at fX fM
    refine lv_aload_n hx hb (show decode code 1035 = .ok (.aload_n 1, 1) by decide +kernel) rfl (lv_at hl 1 rfl) ?_
    refine lv_aload_n hx hb (show decode code 1036 = .ok (.aload_n 0, 1) by decide +kernel) rfl (lv_at hl 0 rfl) ?_
    refine lv_iload_n hx hb (show decode code 1037 = .ok (.iload_n 3, 1) by decide +kernel) rfl (lv_at hl 3 rfl) ?_
    refine lv_iconst (v := 1) hx hb (show decode code 1038 = .ok (.iconst 1, 1) by decide +kernel) (by decide) ?_
    refine lv_iadd hx hb (show decode code 1039 = .ok (.iadd, 1) by decide +kernel) ?_
    refine va_sld hx hb hX hbl hbA hS h1 (show decode code 1040 = .ok (.iaload, 1) by decide +kernel) ?_
    refine lv_aload_n hx hb (show decode code 1041 = .ok (.aload_n 0, 1) by decide +kernel) rfl (lv_at hl 0 rfl) ?_
    refine lv_iload_n hx hb (show decode code 1042 = .ok (.iload_n 3, 1) by decide +kernel) rfl (lv_at hl 3 rfl) ?_
    refine lv_iconst (v := 2) hx hb (show decode code 1043 = .ok (.iconst 2, 1) by decide +kernel) (by decide) ?_
    refine lv_iadd hx hb (show decode code 1044 = .ok (.iadd, 1) by decide +kernel) ?_
    refine va_sld hx hb hX hbl hbA hS h2 (show decode code 1045 = .ok (.iaload, 1) by decide +kernel) ?_
    refine lv_if_eq (tgt := 1053) hx hb (show decode code 1046 = .ok (.ifCond .eq 7, 3) by decide +kernel) (by decide) (fun z => absurd z cz) (fun _ => ?_)
    refine lv_iconst (v := 1) hx hb (show decode code 1049 = .ok (.iconst 1, 1) by decide +kernel) (by decide) ?_
    refine lv_goto (tgt := 1054) hx hb (show decode code 1050 = .ok (.goto 4, 3) by decide +kernel) (by decide) ?_
    refine lw_call (κ := κ) (ad := aX) (W2 := (aW ids aM κM σM)) (P' := pX11_stone) (d' := 5) (c0 := 11) (n := 0) (k := 0) [aI (xs (i + 1).toNatClampNeg), aI 1] [] hx hb hml hl.1 hown hts hcs hK rX oX (List.forall_mem_cons.mpr ⟨okv_of k0 (by decide), List.forall_mem_cons.mpr ⟨trivial, List.forall_mem_cons.mpr ⟨trivial, (fun _ hn => absurd hn List.not_mem_nil)⟩⟩⟩) wX wM dX ap hS hA xX okp_X11_stone (show decode code 1054 = .ok (.invokevirtual 137, 3) by decide +kernel) (List.mem_filter.mp ml_RL_137).1 vok_X11_stone (by decide) rfl nar_X11_stone ⟨rfl, rfl⟩ (Nat.le_of_ble_eq_true rfl) (ok_X11_stone fX) (fun o1 _ H1 locs1 v1 v2 hS => ?_)
    clear wX wM oX
    have wX := v1
    have wM := v2
    have oX := o1
    have dX := aW_D (σ' := σX1) dX
    have ap := apart2.left (σ' := σX1) ap
    refine lv_aload_n hx hb (show decode code 1057 = .ok (.aload_n 2, 1) by decide +kernel) rfl (lv_at hl 2 rfl) ?_
    refine lv_aload_n hx hb (show decode code 1058 = .ok (.aload_n 0, 1) by decide +kernel) rfl (lv_at hl 0 rfl) ?_
    refine lv_iload_n hx hb (show decode code 1059 = .ok (.iload_n 3, 1) by decide +kernel) rfl (lv_at hl 3 rfl) ?_
    refine lv_iconst (v := 1) hx hb (show decode code 1060 = .ok (.iconst 1, 1) by decide +kernel) (by decide) ?_
    refine lv_iadd hx hb (show decode code 1061 = .ok (.iadd, 1) by decide +kernel) ?_
    refine va_sld hx hb hX hbl hbA hS h1 (show decode code 1062 = .ok (.iaload, 1) by decide +kernel) ?_
    refine lv_aload_n hx hb (show decode code 1063 = .ok (.aload_n 0, 1) by decide +kernel) rfl (lv_at hl 0 rfl) ?_
    refine lv_iload_n hx hb (show decode code 1064 = .ok (.iload_n 3, 1) by decide +kernel) rfl (lv_at hl 3 rfl) ?_
    refine lv_iconst (v := 2) hx hb (show decode code 1065 = .ok (.iconst 2, 1) by decide +kernel) (by decide) ?_
    refine lv_iadd hx hb (show decode code 1066 = .ok (.iadd, 1) by decide +kernel) ?_
    refine va_sld hx hb hX hbl hbA hS h2 (show decode code 1067 = .ok (.iaload, 1) by decide +kernel) ?_
    refine lv_if_eq (tgt := 1075) hx hb (show decode code 1068 = .ok (.ifCond .eq 7, 3) by decide +kernel) (by decide) (fun z => absurd z cz) (fun _ => ?_)
    refine lv_iconst (v := 1) hx hb (show decode code 1071 = .ok (.iconst 1, 1) by decide +kernel) (by decide) ?_
    refine lv_goto (tgt := 1076) hx hb (show decode code 1072 = .ok (.goto 4, 3) by decide +kernel) (by decide) ?_
    refine lw_call (κ := κM) (ad := aM) (W2 := (aW ids aX κ σX1)) (P' := pX12_stone) (d' := 5) (c0 := 12) (n := 0) (k := 0) [aI (xs (i + 1).toNatClampNeg), aI 1] [.int r] hx hb hml hl.1 hown hts hcs hK regM oM (List.forall_mem_cons.mpr ⟨okv_of rfl (by decide), List.forall_mem_cons.mpr ⟨trivial, List.forall_mem_cons.mpr ⟨trivial, (fun _ hn => absurd hn List.not_mem_nil)⟩⟩⟩) wM wX dM ap.symm hS hA xM okp_X12_stone (show decode code 1076 = .ok (.invokevirtual 141, 3) by decide +kernel) (List.mem_filter.mp ml_RL_141).1 vok_X12_stone (by decide) rfl nar_X12_stone ⟨rfl, rfl⟩ (Nat.le_of_ble_eq_true rfl) (ok_X12_stone fM) (fun o1 _ H1 locs1 v1 v2 hS => ?_)
    clear wX wM oM
    have wM := v1
    have wX := v2
    have oM := o1
    have dM := aW_D (σ' := σM1) dM
    have ap := (apart2.left (σ' := σM1) ap.symm).symm
    refine lv_icmp_eq (tgt := 1441) hx hb (show decode code 1079 = .ok (.if_icmp .eq 362, 3) by decide +kernel) (by decide) (fun _ => ?_) (fun z => absurd rfl z)
    exact kk _ _ ⟨wX, wM, dX, dM, ap, hS, xX, xM, rX, oX, oM, k0⟩
set_option maxRecDepth 100000 in
set_option maxHeartbeats 4000000 in
theorem lwc_30 {p : Program} {l : Launch} {e : Env} {s : State} {m : MethodId} {args : Array Value} {below : List Frame} {meth : Method} {c : Code} {D : va_G} {ids : Ids} {A : Nat → Prop} {b L : Nat} {xs : Nat → Int32} (C : LC p s m args c D ids A b L xs) {aX aM : Nat → Nat} {κ : Kd} {σX σM : Sg} {H : Heap} {locs : List Loc} (B : LW s D ids A aX aM κ σX σM H locs) {cells slots : Nat} (hcs : cells ≤ room_1.cells ∧ slots ≤ room_1.slots) {ls : Array Slot} {i : Int32} (hl : lv_has ls 4 [(0, .ref b), (1, .ref (aX 0)), (2, .ref (aM 0)), (3, .int i)]) (h1 : vp_in (i + 1) L) (h2 : vp_in (i + 2) L) (h3 : vp_in (i + 3) L) {Q : State → Prop} {r : Int32} {σX1 σM1 : Sg} (fX : f_X11_seen (xs (ix (i + 1))) (xs (ix (i + 2))) (zb (xs (ix (i + 3)))) σX = some (r, σX1)) (fM : f_X12_seen (xs (ix (i + 1))) (xs (ix (i + 2))) (zb (xs (ix (i + 3)))) σM = some (r, σM1)) (kk : ∀ (H1 : Heap) (locs1 : List Loc), LW s D ids A aX aM κ σX1 σM1 H1 locs1 → W p l e room_1 s m args below meth c H1 locs1 cells slots Q (F0 m 1441 ls [])) : W p l e room_1 s m args below meth c H locs cells slots Q (F0 m 1084 ls []) := by
  obtain ⟨hx, hb, hml, hown, hts, hK, hA, hX, hbl, hbA⟩ := C
  obtain ⟨wX, wM, dX, dM, ap, hS, xX, xM, rX, oX, oM, k0⟩ := B
  unfold ix at fX fM
  by_cases cz : xs (i + 3).toNatClampNeg = 0
  · rw [show zb (xs (i + 3).toNatClampNeg) = 0 from if_pos cz] at fX fM
    refine lv_aload_n hx hb (show decode code 1084 = .ok (.aload_n 1, 1) by decide +kernel) rfl (lv_at hl 1 rfl) ?_
    refine lv_aload_n hx hb (show decode code 1085 = .ok (.aload_n 0, 1) by decide +kernel) rfl (lv_at hl 0 rfl) ?_
    refine lv_iload_n hx hb (show decode code 1086 = .ok (.iload_n 3, 1) by decide +kernel) rfl (lv_at hl 3 rfl) ?_
    refine lv_iconst (v := 1) hx hb (show decode code 1087 = .ok (.iconst 1, 1) by decide +kernel) (by decide) ?_
    refine lv_iadd hx hb (show decode code 1088 = .ok (.iadd, 1) by decide +kernel) ?_
    refine va_sld hx hb hX hbl hbA hS h1 (show decode code 1089 = .ok (.iaload, 1) by decide +kernel) ?_
    refine lv_aload_n hx hb (show decode code 1090 = .ok (.aload_n 0, 1) by decide +kernel) rfl (lv_at hl 0 rfl) ?_
    refine lv_iload_n hx hb (show decode code 1091 = .ok (.iload_n 3, 1) by decide +kernel) rfl (lv_at hl 3 rfl) ?_
    refine lv_iconst (v := 2) hx hb (show decode code 1092 = .ok (.iconst 2, 1) by decide +kernel) (by decide) ?_
    refine lv_iadd hx hb (show decode code 1093 = .ok (.iadd, 1) by decide +kernel) ?_
    refine va_sld hx hb hX hbl hbA hS h2 (show decode code 1094 = .ok (.iaload, 1) by decide +kernel) ?_
    refine lv_aload_n hx hb (show decode code 1095 = .ok (.aload_n 0, 1) by decide +kernel) rfl (lv_at hl 0 rfl) ?_
    refine lv_iload_n hx hb (show decode code 1096 = .ok (.iload_n 3, 1) by decide +kernel) rfl (lv_at hl 3 rfl) ?_
    refine lv_iconst (v := 3) hx hb (show decode code 1097 = .ok (.iconst 3, 1) by decide +kernel) (by decide) ?_
    refine lv_iadd hx hb (show decode code 1098 = .ok (.iadd, 1) by decide +kernel) ?_
    refine va_sld hx hb hX hbl hbA hS h3 (show decode code 1099 = .ok (.iaload, 1) by decide +kernel) ?_
    refine lv_if_eq (tgt := 1107) hx hb (show decode code 1100 = .ok (.ifCond .eq 7, 3) by decide +kernel) (by decide) (fun _ => ?_) (fun z => absurd cz z)
    refine lv_iconst (v := 0) hx hb (show decode code 1107 = .ok (.iconst 0, 1) by decide +kernel) (by decide) ?_
    refine lw_call (κ := κ) (ad := aX) (W2 := (aW ids aM κM σM)) (P' := pX11_seen) (d' := 2) (c0 := 11) (n := 0) (k := 0) [aI (xs (i + 1).toNatClampNeg), aI (xs (i + 2).toNatClampNeg), aI 0] [] hx hb hml hl.1 hown hts hcs hK rX oX (List.forall_mem_cons.mpr ⟨okv_of k0 (by decide), List.forall_mem_cons.mpr ⟨trivial, List.forall_mem_cons.mpr ⟨trivial, List.forall_mem_cons.mpr ⟨trivial, (fun _ hn => absurd hn List.not_mem_nil)⟩⟩⟩⟩) wX wM dX ap hS hA xX okp_X11_seen (show decode code 1108 = .ok (.invokevirtual 142, 3) by decide +kernel) (List.mem_filter.mp ml_RL_142).1 vok_X11_seen (by decide) rfl nar_X11_seen ⟨rfl, rfl⟩ (Nat.le_of_ble_eq_true rfl) (ok_X11_seen fX) (fun o1 _ H1 locs1 v1 v2 hS => ?_)
    clear wX wM oX
    have wX := v1
    have wM := v2
    have oX := o1
    have dX := aW_D (σ' := σX1) dX
    have ap := apart2.left (σ' := σX1) ap
    refine lv_aload_n hx hb (show decode code 1111 = .ok (.aload_n 2, 1) by decide +kernel) rfl (lv_at hl 2 rfl) ?_
    refine lv_aload_n hx hb (show decode code 1112 = .ok (.aload_n 0, 1) by decide +kernel) rfl (lv_at hl 0 rfl) ?_
    refine lv_iload_n hx hb (show decode code 1113 = .ok (.iload_n 3, 1) by decide +kernel) rfl (lv_at hl 3 rfl) ?_
    refine lv_iconst (v := 1) hx hb (show decode code 1114 = .ok (.iconst 1, 1) by decide +kernel) (by decide) ?_
    refine lv_iadd hx hb (show decode code 1115 = .ok (.iadd, 1) by decide +kernel) ?_
    refine va_sld hx hb hX hbl hbA hS h1 (show decode code 1116 = .ok (.iaload, 1) by decide +kernel) ?_
    refine lv_aload_n hx hb (show decode code 1117 = .ok (.aload_n 0, 1) by decide +kernel) rfl (lv_at hl 0 rfl) ?_
    refine lv_iload_n hx hb (show decode code 1118 = .ok (.iload_n 3, 1) by decide +kernel) rfl (lv_at hl 3 rfl) ?_
    refine lv_iconst (v := 2) hx hb (show decode code 1119 = .ok (.iconst 2, 1) by decide +kernel) (by decide) ?_
    refine lv_iadd hx hb (show decode code 1120 = .ok (.iadd, 1) by decide +kernel) ?_
    refine va_sld hx hb hX hbl hbA hS h2 (show decode code 1121 = .ok (.iaload, 1) by decide +kernel) ?_
    refine lv_aload_n hx hb (show decode code 1122 = .ok (.aload_n 0, 1) by decide +kernel) rfl (lv_at hl 0 rfl) ?_
    refine lv_iload_n hx hb (show decode code 1123 = .ok (.iload_n 3, 1) by decide +kernel) rfl (lv_at hl 3 rfl) ?_
    refine lv_iconst (v := 3) hx hb (show decode code 1124 = .ok (.iconst 3, 1) by decide +kernel) (by decide) ?_
    refine lv_iadd hx hb (show decode code 1125 = .ok (.iadd, 1) by decide +kernel) ?_
    refine va_sld hx hb hX hbl hbA hS h3 (show decode code 1126 = .ok (.iaload, 1) by decide +kernel) ?_
    refine lv_if_eq (tgt := 1134) hx hb (show decode code 1127 = .ok (.ifCond .eq 7, 3) by decide +kernel) (by decide) (fun _ => ?_) (fun z => absurd cz z)
    refine lv_iconst (v := 0) hx hb (show decode code 1134 = .ok (.iconst 0, 1) by decide +kernel) (by decide) ?_
    refine lw_call (κ := κM) (ad := aM) (W2 := (aW ids aX κ σX1)) (P' := pX12_seen) (d' := 3) (c0 := 12) (n := 0) (k := 0) [aI (xs (i + 1).toNatClampNeg), aI (xs (i + 2).toNatClampNeg), aI 0] [.int r] hx hb hml hl.1 hown hts hcs hK regM oM (List.forall_mem_cons.mpr ⟨okv_of rfl (by decide), List.forall_mem_cons.mpr ⟨trivial, List.forall_mem_cons.mpr ⟨trivial, List.forall_mem_cons.mpr ⟨trivial, (fun _ hn => absurd hn List.not_mem_nil)⟩⟩⟩⟩) wM wX dM ap.symm hS hA xM okp_X12_seen (show decode code 1135 = .ok (.invokevirtual 146, 3) by decide +kernel) (List.mem_filter.mp ml_RL_146).1 vok_X12_seen (by decide) rfl nar_X12_seen ⟨rfl, rfl⟩ (Nat.le_of_ble_eq_true rfl) (ok_X12_seen fM) (fun o1 _ H1 locs1 v1 v2 hS => ?_)
    clear wX wM oM
    have wM := v1
    have wX := v2
    have oM := o1
    have dM := aW_D (σ' := σM1) dM
    have ap := (apart2.left (σ' := σM1) ap.symm).symm
    refine lv_icmp_eq (tgt := 1441) hx hb (show decode code 1138 = .ok (.if_icmp .eq 303, 3) by decide +kernel) (by decide) (fun _ => ?_) (fun z => absurd rfl z)
    exact kk _ _ ⟨wX, wM, dX, dM, ap, hS, xX, xM, rX, oX, oM, k0⟩
  · rw [show zb (xs (i + 3).toNatClampNeg) = 1 from if_neg cz] at fX fM
    refine lv_aload_n hx hb (show decode code 1084 = .ok (.aload_n 1, 1) by decide +kernel) rfl (lv_at hl 1 rfl) ?_
    refine lv_aload_n hx hb (show decode code 1085 = .ok (.aload_n 0, 1) by decide +kernel) rfl (lv_at hl 0 rfl) ?_
    refine lv_iload_n hx hb (show decode code 1086 = .ok (.iload_n 3, 1) by decide +kernel) rfl (lv_at hl 3 rfl) ?_
    refine lv_iconst (v := 1) hx hb (show decode code 1087 = .ok (.iconst 1, 1) by decide +kernel) (by decide) ?_
    refine lv_iadd hx hb (show decode code 1088 = .ok (.iadd, 1) by decide +kernel) ?_
    refine va_sld hx hb hX hbl hbA hS h1 (show decode code 1089 = .ok (.iaload, 1) by decide +kernel) ?_
    refine lv_aload_n hx hb (show decode code 1090 = .ok (.aload_n 0, 1) by decide +kernel) rfl (lv_at hl 0 rfl) ?_
    refine lv_iload_n hx hb (show decode code 1091 = .ok (.iload_n 3, 1) by decide +kernel) rfl (lv_at hl 3 rfl) ?_
    refine lv_iconst (v := 2) hx hb (show decode code 1092 = .ok (.iconst 2, 1) by decide +kernel) (by decide) ?_
    refine lv_iadd hx hb (show decode code 1093 = .ok (.iadd, 1) by decide +kernel) ?_
    refine va_sld hx hb hX hbl hbA hS h2 (show decode code 1094 = .ok (.iaload, 1) by decide +kernel) ?_
    refine lv_aload_n hx hb (show decode code 1095 = .ok (.aload_n 0, 1) by decide +kernel) rfl (lv_at hl 0 rfl) ?_
    refine lv_iload_n hx hb (show decode code 1096 = .ok (.iload_n 3, 1) by decide +kernel) rfl (lv_at hl 3 rfl) ?_
    refine lv_iconst (v := 3) hx hb (show decode code 1097 = .ok (.iconst 3, 1) by decide +kernel) (by decide) ?_
    refine lv_iadd hx hb (show decode code 1098 = .ok (.iadd, 1) by decide +kernel) ?_
    refine va_sld hx hb hX hbl hbA hS h3 (show decode code 1099 = .ok (.iaload, 1) by decide +kernel) ?_
    refine lv_if_eq (tgt := 1107) hx hb (show decode code 1100 = .ok (.ifCond .eq 7, 3) by decide +kernel) (by decide) (fun z => absurd z cz) (fun _ => ?_)
    refine lv_iconst (v := 1) hx hb (show decode code 1103 = .ok (.iconst 1, 1) by decide +kernel) (by decide) ?_
    refine lv_goto (tgt := 1108) hx hb (show decode code 1104 = .ok (.goto 4, 3) by decide +kernel) (by decide) ?_
    refine lw_call (κ := κ) (ad := aX) (W2 := (aW ids aM κM σM)) (P' := pX11_seen) (d' := 2) (c0 := 11) (n := 0) (k := 0) [aI (xs (i + 1).toNatClampNeg), aI (xs (i + 2).toNatClampNeg), aI 1] [] hx hb hml hl.1 hown hts hcs hK rX oX (List.forall_mem_cons.mpr ⟨okv_of k0 (by decide), List.forall_mem_cons.mpr ⟨trivial, List.forall_mem_cons.mpr ⟨trivial, List.forall_mem_cons.mpr ⟨trivial, (fun _ hn => absurd hn List.not_mem_nil)⟩⟩⟩⟩) wX wM dX ap hS hA xX okp_X11_seen (show decode code 1108 = .ok (.invokevirtual 142, 3) by decide +kernel) (List.mem_filter.mp ml_RL_142).1 vok_X11_seen (by decide) rfl nar_X11_seen ⟨rfl, rfl⟩ (Nat.le_of_ble_eq_true rfl) (ok_X11_seen fX) (fun o1 _ H1 locs1 v1 v2 hS => ?_)
    clear wX wM oX
    have wX := v1
    have wM := v2
    have oX := o1
    have dX := aW_D (σ' := σX1) dX
    have ap := apart2.left (σ' := σX1) ap
    refine lv_aload_n hx hb (show decode code 1111 = .ok (.aload_n 2, 1) by decide +kernel) rfl (lv_at hl 2 rfl) ?_
    refine lv_aload_n hx hb (show decode code 1112 = .ok (.aload_n 0, 1) by decide +kernel) rfl (lv_at hl 0 rfl) ?_
    refine lv_iload_n hx hb (show decode code 1113 = .ok (.iload_n 3, 1) by decide +kernel) rfl (lv_at hl 3 rfl) ?_
    refine lv_iconst (v := 1) hx hb (show decode code 1114 = .ok (.iconst 1, 1) by decide +kernel) (by decide) ?_
    refine lv_iadd hx hb (show decode code 1115 = .ok (.iadd, 1) by decide +kernel) ?_
    refine va_sld hx hb hX hbl hbA hS h1 (show decode code 1116 = .ok (.iaload, 1) by decide +kernel) ?_
    refine lv_aload_n hx hb (show decode code 1117 = .ok (.aload_n 0, 1) by decide +kernel) rfl (lv_at hl 0 rfl) ?_
    refine lv_iload_n hx hb (show decode code 1118 = .ok (.iload_n 3, 1) by decide +kernel) rfl (lv_at hl 3 rfl) ?_
    refine lv_iconst (v := 2) hx hb (show decode code 1119 = .ok (.iconst 2, 1) by decide +kernel) (by decide) ?_
    refine lv_iadd hx hb (show decode code 1120 = .ok (.iadd, 1) by decide +kernel) ?_
    refine va_sld hx hb hX hbl hbA hS h2 (show decode code 1121 = .ok (.iaload, 1) by decide +kernel) ?_
    refine lv_aload_n hx hb (show decode code 1122 = .ok (.aload_n 0, 1) by decide +kernel) rfl (lv_at hl 0 rfl) ?_
    refine lv_iload_n hx hb (show decode code 1123 = .ok (.iload_n 3, 1) by decide +kernel) rfl (lv_at hl 3 rfl) ?_
    refine lv_iconst (v := 3) hx hb (show decode code 1124 = .ok (.iconst 3, 1) by decide +kernel) (by decide) ?_
    refine lv_iadd hx hb (show decode code 1125 = .ok (.iadd, 1) by decide +kernel) ?_
    refine va_sld hx hb hX hbl hbA hS h3 (show decode code 1126 = .ok (.iaload, 1) by decide +kernel) ?_
    refine lv_if_eq (tgt := 1134) hx hb (show decode code 1127 = .ok (.ifCond .eq 7, 3) by decide +kernel) (by decide) (fun z => absurd z cz) (fun _ => ?_)
    refine lv_iconst (v := 1) hx hb (show decode code 1130 = .ok (.iconst 1, 1) by decide +kernel) (by decide) ?_
    refine lv_goto (tgt := 1135) hx hb (show decode code 1131 = .ok (.goto 4, 3) by decide +kernel) (by decide) ?_
    refine lw_call (κ := κM) (ad := aM) (W2 := (aW ids aX κ σX1)) (P' := pX12_seen) (d' := 3) (c0 := 12) (n := 0) (k := 0) [aI (xs (i + 1).toNatClampNeg), aI (xs (i + 2).toNatClampNeg), aI 1] [.int r] hx hb hml hl.1 hown hts hcs hK regM oM (List.forall_mem_cons.mpr ⟨okv_of rfl (by decide), List.forall_mem_cons.mpr ⟨trivial, List.forall_mem_cons.mpr ⟨trivial, List.forall_mem_cons.mpr ⟨trivial, (fun _ hn => absurd hn List.not_mem_nil)⟩⟩⟩⟩) wM wX dM ap.symm hS hA xM okp_X12_seen (show decode code 1135 = .ok (.invokevirtual 146, 3) by decide +kernel) (List.mem_filter.mp ml_RL_146).1 vok_X12_seen (by decide) rfl nar_X12_seen ⟨rfl, rfl⟩ (Nat.le_of_ble_eq_true rfl) (ok_X12_seen fM) (fun o1 _ H1 locs1 v1 v2 hS => ?_)
    clear wX wM oM
    have wM := v1
    have wX := v2
    have oM := o1
    have dM := aW_D (σ' := σM1) dM
    have ap := (apart2.left (σ' := σM1) ap.symm).symm
    refine lv_icmp_eq (tgt := 1441) hx hb (show decode code 1138 = .ok (.if_icmp .eq 303, 3) by decide +kernel) (by decide) (fun _ => ?_) (fun z => absurd rfl z)
    exact kk _ _ ⟨wX, wM, dX, dM, ap, hS, xX, xM, rX, oX, oM, k0⟩
set_option maxRecDepth 100000 in
set_option maxHeartbeats 4000000 in
theorem lwc_31 {p : Program} {l : Launch} {e : Env} {s : State} {m : MethodId} {args : Array Value} {below : List Frame} {meth : Method} {c : Code} {D : va_G} {ids : Ids} {A : Nat → Prop} {b L : Nat} {xs : Nat → Int32} (C : LC p s m args c D ids A b L xs) {aX aM : Nat → Nat} {κ : Kd} {σX σM : Sg} {H : Heap} {locs : List Loc} (B : LW s D ids A aX aM κ σX σM H locs) {cells slots : Nat} (hcs : cells ≤ room_1.cells ∧ slots ≤ room_1.slots) {ls : Array Slot} {i : Int32} (hl : lv_has ls 4 [(0, .ref b), (1, .ref (aX 0)), (2, .ref (aM 0)), (3, .int i)]) (h1 : vp_in (i + 1) L) {Q : State → Prop} {r : Int32} {σX1 σM1 : Sg} (fX : f_X11_began (xs (ix (i + 1))) σX = some (r, σX1)) (fM : f_X12_began (xs (ix (i + 1))) σM = some (r, σM1)) (kk : ∀ (H1 : Heap) (locs1 : List Loc), LW s D ids A aX aM κ σX1 σM1 H1 locs1 → W p l e room_1 s m args below meth c H1 locs1 cells slots Q (F0 m 1441 ls [])) : W p l e room_1 s m args below meth c H locs cells slots Q (F0 m 1143 ls []) := by
  obtain ⟨hx, hb, hml, hown, hts, hK, hA, hX, hbl, hbA⟩ := C
  obtain ⟨wX, wM, dX, dM, ap, hS, xX, xM, rX, oX, oM, k0⟩ := B
  unfold ix at fX fM
  refine lv_aload_n hx hb (show decode code 1143 = .ok (.aload_n 1, 1) by decide +kernel) rfl (lv_at hl 1 rfl) ?_
  refine lv_aload_n hx hb (show decode code 1144 = .ok (.aload_n 0, 1) by decide +kernel) rfl (lv_at hl 0 rfl) ?_
  refine lv_iload_n hx hb (show decode code 1145 = .ok (.iload_n 3, 1) by decide +kernel) rfl (lv_at hl 3 rfl) ?_
  refine lv_iconst (v := 1) hx hb (show decode code 1146 = .ok (.iconst 1, 1) by decide +kernel) (by decide) ?_
  refine lv_iadd hx hb (show decode code 1147 = .ok (.iadd, 1) by decide +kernel) ?_
  refine va_sld hx hb hX hbl hbA hS h1 (show decode code 1148 = .ok (.iaload, 1) by decide +kernel) ?_
  refine lw_call (κ := κ) (ad := aX) (W2 := (aW ids aM κM σM)) (P' := pX11_began) (d' := 4) (c0 := 11) (n := 0) (k := 0) [aI (xs (i + 1).toNatClampNeg)] [] hx hb hml hl.1 hown hts hcs hK rX oX (List.forall_mem_cons.mpr ⟨okv_of k0 (by decide), List.forall_mem_cons.mpr ⟨trivial, (fun _ hn => absurd hn List.not_mem_nil)⟩⟩) wX wM dX ap hS hA xX okp_X11_began (show decode code 1149 = .ok (.invokevirtual 147, 3) by decide +kernel) (List.mem_filter.mp ml_RL_147).1 vok_X11_began (by decide) rfl nar_X11_began ⟨rfl, rfl⟩ (Nat.le_of_ble_eq_true rfl) (ok_X11_began fX) (fun o1 _ H1 locs1 v1 v2 hS => ?_)
  clear wX wM oX
  have wX := v1
  have wM := v2
  have oX := o1
  have dX := aW_D (σ' := σX1) dX
  have ap := apart2.left (σ' := σX1) ap
  refine lv_aload_n hx hb (show decode code 1152 = .ok (.aload_n 2, 1) by decide +kernel) rfl (lv_at hl 2 rfl) ?_
  refine lv_aload_n hx hb (show decode code 1153 = .ok (.aload_n 0, 1) by decide +kernel) rfl (lv_at hl 0 rfl) ?_
  refine lv_iload_n hx hb (show decode code 1154 = .ok (.iload_n 3, 1) by decide +kernel) rfl (lv_at hl 3 rfl) ?_
  refine lv_iconst (v := 1) hx hb (show decode code 1155 = .ok (.iconst 1, 1) by decide +kernel) (by decide) ?_
  refine lv_iadd hx hb (show decode code 1156 = .ok (.iadd, 1) by decide +kernel) ?_
  refine va_sld hx hb hX hbl hbA hS h1 (show decode code 1157 = .ok (.iaload, 1) by decide +kernel) ?_
  refine lw_call (κ := κM) (ad := aM) (W2 := (aW ids aX κ σX1)) (P' := pX12_began) (d' := 4) (c0 := 12) (n := 0) (k := 0) [aI (xs (i + 1).toNatClampNeg)] [.int r] hx hb hml hl.1 hown hts hcs hK regM oM (List.forall_mem_cons.mpr ⟨okv_of rfl (by decide), List.forall_mem_cons.mpr ⟨trivial, (fun _ hn => absurd hn List.not_mem_nil)⟩⟩) wM wX dM ap.symm hS hA xM okp_X12_began (show decode code 1158 = .ok (.invokevirtual 150, 3) by decide +kernel) (List.mem_filter.mp ml_RL_150).1 vok_X12_began (by decide) rfl nar_X12_began ⟨rfl, rfl⟩ (Nat.le_of_ble_eq_true rfl) (ok_X12_began fM) (fun o1 _ H1 locs1 v1 v2 hS => ?_)
  clear wX wM oM
  have wM := v1
  have wX := v2
  have oM := o1
  have dM := aW_D (σ' := σM1) dM
  have ap := (apart2.left (σ' := σM1) ap.symm).symm
  refine lv_icmp_eq (tgt := 1441) hx hb (show decode code 1161 = .ok (.if_icmp .eq 280, 3) by decide +kernel) (by decide) (fun _ => ?_) (fun z => absurd rfl z)
  exact kk _ _ ⟨wX, wM, dX, dM, ap, hS, xX, xM, rX, oX, oM, k0⟩
set_option maxRecDepth 100000 in
set_option maxHeartbeats 4000000 in
theorem lwc_32 {p : Program} {l : Launch} {e : Env} {s : State} {m : MethodId} {args : Array Value} {below : List Frame} {meth : Method} {c : Code} {D : va_G} {ids : Ids} {A : Nat → Prop} {b L : Nat} {xs : Nat → Int32} (C : LC p s m args c D ids A b L xs) {aX aM : Nat → Nat} {κ : Kd} {σX σM : Sg} {H : Heap} {locs : List Loc} (B : LW s D ids A aX aM κ σX σM H locs) {cells slots : Nat} (hcs : cells ≤ room_1.cells ∧ slots ≤ room_1.slots) {ls : Array Slot} {i : Int32} (hl : lv_has ls 4 [(0, .ref b), (1, .ref (aX 0)), (2, .ref (aM 0)), (3, .int i)])  {Q : State → Prop} {r : Int32} {σX1 σM1 : Sg} (fX : f_X11_whom  σX = some (r, σX1)) (fM : f_X12_whom  σM = some (r, σM1)) (kk : ∀ (H1 : Heap) (locs1 : List Loc), LW s D ids A aX aM κ σX1 σM1 H1 locs1 → W p l e room_1 s m args below meth c H1 locs1 cells slots Q (F0 m 1441 ls [])) : W p l e room_1 s m args below meth c H locs cells slots Q (F0 m 1166 ls []) := by
  obtain ⟨hx, hb, hml, hown, hts, hK, hA, hX, hbl, hbA⟩ := C
  obtain ⟨wX, wM, dX, dM, ap, hS, xX, xM, rX, oX, oM, k0⟩ := B
  refine lv_aload_n hx hb (show decode code 1166 = .ok (.aload_n 1, 1) by decide +kernel) rfl (lv_at hl 1 rfl) ?_
  refine lw_call (κ := κ) (ad := aX) (W2 := (aW ids aM κM σM)) (P' := pX11_whom) (d' := 4) (c0 := 11) (n := 0) (k := 0) [] [] hx hb hml hl.1 hown hts hcs hK rX oX (List.forall_mem_cons.mpr ⟨okv_of k0 (by decide), (fun _ hn => absurd hn List.not_mem_nil)⟩) wX wM dX ap hS hA xX okp_X11_whom (show decode code 1167 = .ok (.invokevirtual 151, 3) by decide +kernel) (List.mem_filter.mp ml_RL_151).1 vok_X11_whom (by decide) rfl nar_X11_whom ⟨rfl, rfl⟩ (Nat.le_of_ble_eq_true rfl) (ok_X11_whom fX) (fun o1 _ H1 locs1 v1 v2 hS => ?_)
  clear wX wM oX
  have wX := v1
  have wM := v2
  have oX := o1
  have dX := aW_D (σ' := σX1) dX
  have ap := apart2.left (σ' := σX1) ap
  refine lv_aload_n hx hb (show decode code 1170 = .ok (.aload_n 2, 1) by decide +kernel) rfl (lv_at hl 2 rfl) ?_
  refine lw_call (κ := κM) (ad := aM) (W2 := (aW ids aX κ σX1)) (P' := pX12_whom) (d' := 4) (c0 := 12) (n := 0) (k := 0) [] [.int r] hx hb hml hl.1 hown hts hcs hK regM oM (List.forall_mem_cons.mpr ⟨okv_of rfl (by decide), (fun _ hn => absurd hn List.not_mem_nil)⟩) wM wX dM ap.symm hS hA xM okp_X12_whom (show decode code 1171 = .ok (.invokevirtual 154, 3) by decide +kernel) (List.mem_filter.mp ml_RL_154).1 vok_X12_whom (by decide) rfl nar_X12_whom ⟨rfl, rfl⟩ (Nat.le_of_ble_eq_true rfl) (ok_X12_whom fM) (fun o1 _ H1 locs1 v1 v2 hS => ?_)
  clear wX wM oM
  have wM := v1
  have wX := v2
  have oM := o1
  have dM := aW_D (σ' := σM1) dM
  have ap := (apart2.left (σ' := σM1) ap.symm).symm
  refine lv_icmp_eq (tgt := 1441) hx hb (show decode code 1174 = .ok (.if_icmp .eq 267, 3) by decide +kernel) (by decide) (fun _ => ?_) (fun z => absurd rfl z)
  exact kk _ _ ⟨wX, wM, dX, dM, ap, hS, xX, xM, rX, oX, oM, k0⟩
set_option maxRecDepth 100000 in
set_option maxHeartbeats 4000000 in
theorem lwc_33 {p : Program} {l : Launch} {e : Env} {s : State} {m : MethodId} {args : Array Value} {below : List Frame} {meth : Method} {c : Code} {D : va_G} {ids : Ids} {A : Nat → Prop} {b L : Nat} {xs : Nat → Int32} (C : LC p s m args c D ids A b L xs) {aX aM : Nat → Nat} {κ : Kd} {σX σM : Sg} {H : Heap} {locs : List Loc} (B : LW s D ids A aX aM κ σX σM H locs) {cells slots : Nat} (hcs : cells ≤ room_1.cells ∧ slots ≤ room_1.slots) {ls : Array Slot} {i : Int32} (hl : lv_has ls 4 [(0, .ref b), (1, .ref (aX 0)), (2, .ref (aM 0)), (3, .int i)]) (h1 : vp_in (i + 1) L) (h2 : vp_in (i + 2) L) {Q : State → Prop} {r : Int32} {σX1 σM1 : Sg} (fX : f_X11_bid (xs (ix (i + 1))) (xs (ix (i + 2))) σX = some (r, σX1)) (fM : f_X12_bid (xs (ix (i + 1))) (xs (ix (i + 2))) σM = some (r, σM1)) (kk : ∀ (H1 : Heap) (locs1 : List Loc), LW s D ids A aX aM κ σX1 σM1 H1 locs1 → W p l e room_1 s m args below meth c H1 locs1 cells slots Q (F0 m 1441 ls [])) : W p l e room_1 s m args below meth c H locs cells slots Q (F0 m 1179 ls []) := by
  obtain ⟨hx, hb, hml, hown, hts, hK, hA, hX, hbl, hbA⟩ := C
  obtain ⟨wX, wM, dX, dM, ap, hS, xX, xM, rX, oX, oM, k0⟩ := B
  unfold ix at fX fM
  refine lv_aload_n hx hb (show decode code 1179 = .ok (.aload_n 1, 1) by decide +kernel) rfl (lv_at hl 1 rfl) ?_
  refine lv_aload_n hx hb (show decode code 1180 = .ok (.aload_n 0, 1) by decide +kernel) rfl (lv_at hl 0 rfl) ?_
  refine lv_iload_n hx hb (show decode code 1181 = .ok (.iload_n 3, 1) by decide +kernel) rfl (lv_at hl 3 rfl) ?_
  refine lv_iconst (v := 1) hx hb (show decode code 1182 = .ok (.iconst 1, 1) by decide +kernel) (by decide) ?_
  refine lv_iadd hx hb (show decode code 1183 = .ok (.iadd, 1) by decide +kernel) ?_
  refine va_sld hx hb hX hbl hbA hS h1 (show decode code 1184 = .ok (.iaload, 1) by decide +kernel) ?_
  refine lv_aload_n hx hb (show decode code 1185 = .ok (.aload_n 0, 1) by decide +kernel) rfl (lv_at hl 0 rfl) ?_
  refine lv_iload_n hx hb (show decode code 1186 = .ok (.iload_n 3, 1) by decide +kernel) rfl (lv_at hl 3 rfl) ?_
  refine lv_iconst (v := 2) hx hb (show decode code 1187 = .ok (.iconst 2, 1) by decide +kernel) (by decide) ?_
  refine lv_iadd hx hb (show decode code 1188 = .ok (.iadd, 1) by decide +kernel) ?_
  refine va_sld hx hb hX hbl hbA hS h2 (show decode code 1189 = .ok (.iaload, 1) by decide +kernel) ?_
  refine lw_call (κ := κ) (ad := aX) (W2 := (aW ids aM κM σM)) (P' := pX11_bid) (d' := 2) (c0 := 11) (n := 0) (k := 0) [aI (xs (i + 1).toNatClampNeg), aI (xs (i + 2).toNatClampNeg)] [] hx hb hml hl.1 hown hts hcs hK rX oX (List.forall_mem_cons.mpr ⟨okv_of k0 (by decide), List.forall_mem_cons.mpr ⟨trivial, List.forall_mem_cons.mpr ⟨trivial, (fun _ hn => absurd hn List.not_mem_nil)⟩⟩⟩) wX wM dX ap hS hA xX okp_X11_bid (show decode code 1190 = .ok (.invokevirtual 155, 3) by decide +kernel) (List.mem_filter.mp ml_RL_155).1 vok_X11_bid (by decide) rfl nar_X11_bid ⟨rfl, rfl⟩ (Nat.le_of_ble_eq_true rfl) (ok_X11_bid fX) (fun o1 _ H1 locs1 v1 v2 hS => ?_)
  clear wX wM oX
  have wX := v1
  have wM := v2
  have oX := o1
  have dX := aW_D (σ' := σX1) dX
  have ap := apart2.left (σ' := σX1) ap
  refine lv_aload_n hx hb (show decode code 1193 = .ok (.aload_n 2, 1) by decide +kernel) rfl (lv_at hl 2 rfl) ?_
  refine lv_aload_n hx hb (show decode code 1194 = .ok (.aload_n 0, 1) by decide +kernel) rfl (lv_at hl 0 rfl) ?_
  refine lv_iload_n hx hb (show decode code 1195 = .ok (.iload_n 3, 1) by decide +kernel) rfl (lv_at hl 3 rfl) ?_
  refine lv_iconst (v := 1) hx hb (show decode code 1196 = .ok (.iconst 1, 1) by decide +kernel) (by decide) ?_
  refine lv_iadd hx hb (show decode code 1197 = .ok (.iadd, 1) by decide +kernel) ?_
  refine va_sld hx hb hX hbl hbA hS h1 (show decode code 1198 = .ok (.iaload, 1) by decide +kernel) ?_
  refine lv_aload_n hx hb (show decode code 1199 = .ok (.aload_n 0, 1) by decide +kernel) rfl (lv_at hl 0 rfl) ?_
  refine lv_iload_n hx hb (show decode code 1200 = .ok (.iload_n 3, 1) by decide +kernel) rfl (lv_at hl 3 rfl) ?_
  refine lv_iconst (v := 2) hx hb (show decode code 1201 = .ok (.iconst 2, 1) by decide +kernel) (by decide) ?_
  refine lv_iadd hx hb (show decode code 1202 = .ok (.iadd, 1) by decide +kernel) ?_
  refine va_sld hx hb hX hbl hbA hS h2 (show decode code 1203 = .ok (.iaload, 1) by decide +kernel) ?_
  refine lw_call (κ := κM) (ad := aM) (W2 := (aW ids aX κ σX1)) (P' := pX12_bid) (d' := 3) (c0 := 12) (n := 0) (k := 0) [aI (xs (i + 1).toNatClampNeg), aI (xs (i + 2).toNatClampNeg)] [.int r] hx hb hml hl.1 hown hts hcs hK regM oM (List.forall_mem_cons.mpr ⟨okv_of rfl (by decide), List.forall_mem_cons.mpr ⟨trivial, List.forall_mem_cons.mpr ⟨trivial, (fun _ hn => absurd hn List.not_mem_nil)⟩⟩⟩) wM wX dM ap.symm hS hA xM okp_X12_bid (show decode code 1204 = .ok (.invokevirtual 158, 3) by decide +kernel) (List.mem_filter.mp ml_RL_158).1 vok_X12_bid (by decide) rfl nar_X12_bid ⟨rfl, rfl⟩ (Nat.le_of_ble_eq_true rfl) (ok_X12_bid fM) (fun o1 _ H1 locs1 v1 v2 hS => ?_)
  clear wX wM oM
  have wM := v1
  have wX := v2
  have oM := o1
  have dM := aW_D (σ' := σM1) dM
  have ap := (apart2.left (σ' := σM1) ap.symm).symm
  refine lv_icmp_eq (tgt := 1441) hx hb (show decode code 1207 = .ok (.if_icmp .eq 234, 3) by decide +kernel) (by decide) (fun _ => ?_) (fun z => absurd rfl z)
  exact kk _ _ ⟨wX, wM, dX, dM, ap, hS, xX, xM, rX, oX, oM, k0⟩
set_option maxRecDepth 100000 in
set_option maxHeartbeats 4000000 in
theorem lwc_34 {p : Program} {l : Launch} {e : Env} {s : State} {m : MethodId} {args : Array Value} {below : List Frame} {meth : Method} {c : Code} {D : va_G} {ids : Ids} {A : Nat → Prop} {b L : Nat} {xs : Nat → Int32} (C : LC p s m args c D ids A b L xs) {aX aM : Nat → Nat} {κ : Kd} {σX σM : Sg} {H : Heap} {locs : List Loc} (B : LW s D ids A aX aM κ σX σM H locs) {cells slots : Nat} (hcs : cells ≤ room_1.cells ∧ slots ≤ room_1.slots) {ls : Array Slot} {i : Int32} (hl : lv_has ls 4 [(0, .ref b), (1, .ref (aX 0)), (2, .ref (aM 0)), (3, .int i)]) (h1 : vp_in (i + 1) L) (h2 : vp_in (i + 2) L) {Q : State → Prop} {r : Int32} {σX1 σM1 : Sg} (fX : f_X11_leave (xs (ix (i + 1))) (zb (xs (ix (i + 2)))) σX = some (r, σX1)) (fM : f_X12_leave (xs (ix (i + 1))) (zb (xs (ix (i + 2)))) σM = some (r, σM1)) (kk : ∀ (H1 : Heap) (locs1 : List Loc), LW s D ids A aX aM κ σX1 σM1 H1 locs1 → W p l e room_1 s m args below meth c H1 locs1 cells slots Q (F0 m 1441 ls [])) : W p l e room_1 s m args below meth c H locs cells slots Q (F0 m 1212 ls []) := by
  obtain ⟨hx, hb, hml, hown, hts, hK, hA, hX, hbl, hbA⟩ := C
  obtain ⟨wX, wM, dX, dM, ap, hS, xX, xM, rX, oX, oM, k0⟩ := B
  unfold ix at fX fM
  by_cases cz : xs (i + 2).toNatClampNeg = 0
  · rw [show zb (xs (i + 2).toNatClampNeg) = 0 from if_pos cz] at fX fM
    refine lv_aload_n hx hb (show decode code 1212 = .ok (.aload_n 1, 1) by decide +kernel) rfl (lv_at hl 1 rfl) ?_
    refine lv_aload_n hx hb (show decode code 1213 = .ok (.aload_n 0, 1) by decide +kernel) rfl (lv_at hl 0 rfl) ?_
    refine lv_iload_n hx hb (show decode code 1214 = .ok (.iload_n 3, 1) by decide +kernel) rfl (lv_at hl 3 rfl) ?_
    refine lv_iconst (v := 1) hx hb (show decode code 1215 = .ok (.iconst 1, 1) by decide +kernel) (by decide) ?_
    refine lv_iadd hx hb (show decode code 1216 = .ok (.iadd, 1) by decide +kernel) ?_
    refine va_sld hx hb hX hbl hbA hS h1 (show decode code 1217 = .ok (.iaload, 1) by decide +kernel) ?_
    refine lv_aload_n hx hb (show decode code 1218 = .ok (.aload_n 0, 1) by decide +kernel) rfl (lv_at hl 0 rfl) ?_
    refine lv_iload_n hx hb (show decode code 1219 = .ok (.iload_n 3, 1) by decide +kernel) rfl (lv_at hl 3 rfl) ?_
    refine lv_iconst (v := 2) hx hb (show decode code 1220 = .ok (.iconst 2, 1) by decide +kernel) (by decide) ?_
    refine lv_iadd hx hb (show decode code 1221 = .ok (.iadd, 1) by decide +kernel) ?_
    refine va_sld hx hb hX hbl hbA hS h2 (show decode code 1222 = .ok (.iaload, 1) by decide +kernel) ?_
    refine lv_if_eq (tgt := 1230) hx hb (show decode code 1223 = .ok (.ifCond .eq 7, 3) by decide +kernel) (by decide) (fun _ => ?_) (fun z => absurd cz z)
    refine lv_iconst (v := 0) hx hb (show decode code 1230 = .ok (.iconst 0, 1) by decide +kernel) (by decide) ?_
    refine lw_call (κ := κ) (ad := aX) (W2 := (aW ids aM κM σM)) (P' := pX11_leave) (d' := 2) (c0 := 11) (n := 0) (k := 0) [aI (xs (i + 1).toNatClampNeg), aI 0] [] hx hb hml hl.1 hown hts hcs hK rX oX (List.forall_mem_cons.mpr ⟨okv_of k0 (by decide), List.forall_mem_cons.mpr ⟨trivial, List.forall_mem_cons.mpr ⟨trivial, (fun _ hn => absurd hn List.not_mem_nil)⟩⟩⟩) wX wM dX ap hS hA xX okp_X11_leave (show decode code 1231 = .ok (.invokevirtual 159, 3) by decide +kernel) (List.mem_filter.mp ml_RL_159).1 vok_X11_leave (by decide) rfl nar_X11_leave ⟨rfl, rfl⟩ (Nat.le_of_ble_eq_true rfl) (ok_X11_leave fX) (fun o1 _ H1 locs1 v1 v2 hS => ?_)
    clear wX wM oX
    have wX := v1
    have wM := v2
    have oX := o1
    have dX := aW_D (σ' := σX1) dX
    have ap := apart2.left (σ' := σX1) ap
    refine lv_aload_n hx hb (show decode code 1234 = .ok (.aload_n 2, 1) by decide +kernel) rfl (lv_at hl 2 rfl) ?_
    refine lv_aload_n hx hb (show decode code 1235 = .ok (.aload_n 0, 1) by decide +kernel) rfl (lv_at hl 0 rfl) ?_
    refine lv_iload_n hx hb (show decode code 1236 = .ok (.iload_n 3, 1) by decide +kernel) rfl (lv_at hl 3 rfl) ?_
    refine lv_iconst (v := 1) hx hb (show decode code 1237 = .ok (.iconst 1, 1) by decide +kernel) (by decide) ?_
    refine lv_iadd hx hb (show decode code 1238 = .ok (.iadd, 1) by decide +kernel) ?_
    refine va_sld hx hb hX hbl hbA hS h1 (show decode code 1239 = .ok (.iaload, 1) by decide +kernel) ?_
    refine lv_aload_n hx hb (show decode code 1240 = .ok (.aload_n 0, 1) by decide +kernel) rfl (lv_at hl 0 rfl) ?_
    refine lv_iload_n hx hb (show decode code 1241 = .ok (.iload_n 3, 1) by decide +kernel) rfl (lv_at hl 3 rfl) ?_
    refine lv_iconst (v := 2) hx hb (show decode code 1242 = .ok (.iconst 2, 1) by decide +kernel) (by decide) ?_
    refine lv_iadd hx hb (show decode code 1243 = .ok (.iadd, 1) by decide +kernel) ?_
    refine va_sld hx hb hX hbl hbA hS h2 (show decode code 1244 = .ok (.iaload, 1) by decide +kernel) ?_
    refine lv_if_eq (tgt := 1252) hx hb (show decode code 1245 = .ok (.ifCond .eq 7, 3) by decide +kernel) (by decide) (fun _ => ?_) (fun z => absurd cz z)
    refine lv_iconst (v := 0) hx hb (show decode code 1252 = .ok (.iconst 0, 1) by decide +kernel) (by decide) ?_
    refine lw_call (κ := κM) (ad := aM) (W2 := (aW ids aX κ σX1)) (P' := pX12_leave) (d' := 2) (c0 := 12) (n := 0) (k := 0) [aI (xs (i + 1).toNatClampNeg), aI 0] [.int r] hx hb hml hl.1 hown hts hcs hK regM oM (List.forall_mem_cons.mpr ⟨okv_of rfl (by decide), List.forall_mem_cons.mpr ⟨trivial, List.forall_mem_cons.mpr ⟨trivial, (fun _ hn => absurd hn List.not_mem_nil)⟩⟩⟩) wM wX dM ap.symm hS hA xM okp_X12_leave (show decode code 1253 = .ok (.invokevirtual 162, 3) by decide +kernel) (List.mem_filter.mp ml_RL_162).1 vok_X12_leave (by decide) rfl nar_X12_leave ⟨rfl, rfl⟩ (Nat.le_of_ble_eq_true rfl) (ok_X12_leave fM) (fun o1 _ H1 locs1 v1 v2 hS => ?_)
    clear wX wM oM
    have wM := v1
    have wX := v2
    have oM := o1
    have dM := aW_D (σ' := σM1) dM
    have ap := (apart2.left (σ' := σM1) ap.symm).symm
    refine lv_icmp_eq (tgt := 1441) hx hb (show decode code 1256 = .ok (.if_icmp .eq 185, 3) by decide +kernel) (by decide) (fun _ => ?_) (fun z => absurd rfl z)
    exact kk _ _ ⟨wX, wM, dX, dM, ap, hS, xX, xM, rX, oX, oM, k0⟩
  · rw [show zb (xs (i + 2).toNatClampNeg) = 1 from if_neg cz] at fX fM
    refine lv_aload_n hx hb (show decode code 1212 = .ok (.aload_n 1, 1) by decide +kernel) rfl (lv_at hl 1 rfl) ?_
    refine lv_aload_n hx hb (show decode code 1213 = .ok (.aload_n 0, 1) by decide +kernel) rfl (lv_at hl 0 rfl) ?_
    refine lv_iload_n hx hb (show decode code 1214 = .ok (.iload_n 3, 1) by decide +kernel) rfl (lv_at hl 3 rfl) ?_
    refine lv_iconst (v := 1) hx hb (show decode code 1215 = .ok (.iconst 1, 1) by decide +kernel) (by decide) ?_
    refine lv_iadd hx hb (show decode code 1216 = .ok (.iadd, 1) by decide +kernel) ?_
    refine va_sld hx hb hX hbl hbA hS h1 (show decode code 1217 = .ok (.iaload, 1) by decide +kernel) ?_
    refine lv_aload_n hx hb (show decode code 1218 = .ok (.aload_n 0, 1) by decide +kernel) rfl (lv_at hl 0 rfl) ?_
    refine lv_iload_n hx hb (show decode code 1219 = .ok (.iload_n 3, 1) by decide +kernel) rfl (lv_at hl 3 rfl) ?_
    refine lv_iconst (v := 2) hx hb (show decode code 1220 = .ok (.iconst 2, 1) by decide +kernel) (by decide) ?_
    refine lv_iadd hx hb (show decode code 1221 = .ok (.iadd, 1) by decide +kernel) ?_
    refine va_sld hx hb hX hbl hbA hS h2 (show decode code 1222 = .ok (.iaload, 1) by decide +kernel) ?_
    refine lv_if_eq (tgt := 1230) hx hb (show decode code 1223 = .ok (.ifCond .eq 7, 3) by decide +kernel) (by decide) (fun z => absurd z cz) (fun _ => ?_)
    refine lv_iconst (v := 1) hx hb (show decode code 1226 = .ok (.iconst 1, 1) by decide +kernel) (by decide) ?_
    refine lv_goto (tgt := 1231) hx hb (show decode code 1227 = .ok (.goto 4, 3) by decide +kernel) (by decide) ?_
    refine lw_call (κ := κ) (ad := aX) (W2 := (aW ids aM κM σM)) (P' := pX11_leave) (d' := 2) (c0 := 11) (n := 0) (k := 0) [aI (xs (i + 1).toNatClampNeg), aI 1] [] hx hb hml hl.1 hown hts hcs hK rX oX (List.forall_mem_cons.mpr ⟨okv_of k0 (by decide), List.forall_mem_cons.mpr ⟨trivial, List.forall_mem_cons.mpr ⟨trivial, (fun _ hn => absurd hn List.not_mem_nil)⟩⟩⟩) wX wM dX ap hS hA xX okp_X11_leave (show decode code 1231 = .ok (.invokevirtual 159, 3) by decide +kernel) (List.mem_filter.mp ml_RL_159).1 vok_X11_leave (by decide) rfl nar_X11_leave ⟨rfl, rfl⟩ (Nat.le_of_ble_eq_true rfl) (ok_X11_leave fX) (fun o1 _ H1 locs1 v1 v2 hS => ?_)
    clear wX wM oX
    have wX := v1
    have wM := v2
    have oX := o1
    have dX := aW_D (σ' := σX1) dX
    have ap := apart2.left (σ' := σX1) ap
    refine lv_aload_n hx hb (show decode code 1234 = .ok (.aload_n 2, 1) by decide +kernel) rfl (lv_at hl 2 rfl) ?_
    refine lv_aload_n hx hb (show decode code 1235 = .ok (.aload_n 0, 1) by decide +kernel) rfl (lv_at hl 0 rfl) ?_
    refine lv_iload_n hx hb (show decode code 1236 = .ok (.iload_n 3, 1) by decide +kernel) rfl (lv_at hl 3 rfl) ?_
    refine lv_iconst (v := 1) hx hb (show decode code 1237 = .ok (.iconst 1, 1) by decide +kernel) (by decide) ?_
    refine lv_iadd hx hb (show decode code 1238 = .ok (.iadd, 1) by decide +kernel) ?_
    refine va_sld hx hb hX hbl hbA hS h1 (show decode code 1239 = .ok (.iaload, 1) by decide +kernel) ?_
    refine lv_aload_n hx hb (show decode code 1240 = .ok (.aload_n 0, 1) by decide +kernel) rfl (lv_at hl 0 rfl) ?_
    refine lv_iload_n hx hb (show decode code 1241 = .ok (.iload_n 3, 1) by decide +kernel) rfl (lv_at hl 3 rfl) ?_
    refine lv_iconst (v := 2) hx hb (show decode code 1242 = .ok (.iconst 2, 1) by decide +kernel) (by decide) ?_
    refine lv_iadd hx hb (show decode code 1243 = .ok (.iadd, 1) by decide +kernel) ?_
    refine va_sld hx hb hX hbl hbA hS h2 (show decode code 1244 = .ok (.iaload, 1) by decide +kernel) ?_
    refine lv_if_eq (tgt := 1252) hx hb (show decode code 1245 = .ok (.ifCond .eq 7, 3) by decide +kernel) (by decide) (fun z => absurd z cz) (fun _ => ?_)
    refine lv_iconst (v := 1) hx hb (show decode code 1248 = .ok (.iconst 1, 1) by decide +kernel) (by decide) ?_
    refine lv_goto (tgt := 1253) hx hb (show decode code 1249 = .ok (.goto 4, 3) by decide +kernel) (by decide) ?_
    refine lw_call (κ := κM) (ad := aM) (W2 := (aW ids aX κ σX1)) (P' := pX12_leave) (d' := 2) (c0 := 12) (n := 0) (k := 0) [aI (xs (i + 1).toNatClampNeg), aI 1] [.int r] hx hb hml hl.1 hown hts hcs hK regM oM (List.forall_mem_cons.mpr ⟨okv_of rfl (by decide), List.forall_mem_cons.mpr ⟨trivial, List.forall_mem_cons.mpr ⟨trivial, (fun _ hn => absurd hn List.not_mem_nil)⟩⟩⟩) wM wX dM ap.symm hS hA xM okp_X12_leave (show decode code 1253 = .ok (.invokevirtual 162, 3) by decide +kernel) (List.mem_filter.mp ml_RL_162).1 vok_X12_leave (by decide) rfl nar_X12_leave ⟨rfl, rfl⟩ (Nat.le_of_ble_eq_true rfl) (ok_X12_leave fM) (fun o1 _ H1 locs1 v1 v2 hS => ?_)
    clear wX wM oM
    have wM := v1
    have wX := v2
    have oM := o1
    have dM := aW_D (σ' := σM1) dM
    have ap := (apart2.left (σ' := σM1) ap.symm).symm
    refine lv_icmp_eq (tgt := 1441) hx hb (show decode code 1256 = .ok (.if_icmp .eq 185, 3) by decide +kernel) (by decide) (fun _ => ?_) (fun z => absurd rfl z)
    exact kk _ _ ⟨wX, wM, dX, dM, ap, hS, xX, xM, rX, oX, oM, k0⟩
set_option maxRecDepth 100000 in
set_option maxHeartbeats 4000000 in
theorem lwc_35 {p : Program} {l : Launch} {e : Env} {s : State} {m : MethodId} {args : Array Value} {below : List Frame} {meth : Method} {c : Code} {D : va_G} {ids : Ids} {A : Nat → Prop} {b L : Nat} {xs : Nat → Int32} (C : LC p s m args c D ids A b L xs) {aX aM : Nat → Nat} {κ : Kd} {σX σM : Sg} {H : Heap} {locs : List Loc} (B : LW s D ids A aX aM κ σX σM H locs) {cells slots : Nat} (hcs : cells ≤ room_1.cells ∧ slots ≤ room_1.slots) {ls : Array Slot} {i : Int32} (hl : lv_has ls 4 [(0, .ref b), (1, .ref (aX 0)), (2, .ref (aM 0)), (3, .int i)]) (h1 : vp_in (i + 1) L) (h2 : vp_in (i + 2) L) {Q : State → Prop} {r : Int32} {σX1 σM1 : Sg} (fX : f_X11_cooled (xs (ix (i + 1))) (xs (ix (i + 2))) σX = some (r, σX1)) (fM : f_X12_cooled (xs (ix (i + 1))) (xs (ix (i + 2))) σM = some (r, σM1)) (kk : ∀ (H1 : Heap) (locs1 : List Loc), LW s D ids A aX aM κ σX1 σM1 H1 locs1 → W p l e room_1 s m args below meth c H1 locs1 cells slots Q (F0 m 1441 ls [])) : W p l e room_1 s m args below meth c H locs cells slots Q (F0 m 1261 ls []) := by
  obtain ⟨hx, hb, hml, hown, hts, hK, hA, hX, hbl, hbA⟩ := C
  obtain ⟨wX, wM, dX, dM, ap, hS, xX, xM, rX, oX, oM, k0⟩ := B
  unfold ix at fX fM
  refine lv_aload_n hx hb (show decode code 1261 = .ok (.aload_n 1, 1) by decide +kernel) rfl (lv_at hl 1 rfl) ?_
  refine lv_aload_n hx hb (show decode code 1262 = .ok (.aload_n 0, 1) by decide +kernel) rfl (lv_at hl 0 rfl) ?_
  refine lv_iload_n hx hb (show decode code 1263 = .ok (.iload_n 3, 1) by decide +kernel) rfl (lv_at hl 3 rfl) ?_
  refine lv_iconst (v := 1) hx hb (show decode code 1264 = .ok (.iconst 1, 1) by decide +kernel) (by decide) ?_
  refine lv_iadd hx hb (show decode code 1265 = .ok (.iadd, 1) by decide +kernel) ?_
  refine va_sld hx hb hX hbl hbA hS h1 (show decode code 1266 = .ok (.iaload, 1) by decide +kernel) ?_
  refine lv_aload_n hx hb (show decode code 1267 = .ok (.aload_n 0, 1) by decide +kernel) rfl (lv_at hl 0 rfl) ?_
  refine lv_iload_n hx hb (show decode code 1268 = .ok (.iload_n 3, 1) by decide +kernel) rfl (lv_at hl 3 rfl) ?_
  refine lv_iconst (v := 2) hx hb (show decode code 1269 = .ok (.iconst 2, 1) by decide +kernel) (by decide) ?_
  refine lv_iadd hx hb (show decode code 1270 = .ok (.iadd, 1) by decide +kernel) ?_
  refine va_sld hx hb hX hbl hbA hS h2 (show decode code 1271 = .ok (.iaload, 1) by decide +kernel) ?_
  refine lw_call (κ := κ) (ad := aX) (W2 := (aW ids aM κM σM)) (P' := pX11_cooled) (d' := 2) (c0 := 11) (n := 0) (k := 0) [aI (xs (i + 1).toNatClampNeg), aI (xs (i + 2).toNatClampNeg)] [] hx hb hml hl.1 hown hts hcs hK rX oX (List.forall_mem_cons.mpr ⟨okv_of k0 (by decide), List.forall_mem_cons.mpr ⟨trivial, List.forall_mem_cons.mpr ⟨trivial, (fun _ hn => absurd hn List.not_mem_nil)⟩⟩⟩) wX wM dX ap hS hA xX okp_X11_cooled (show decode code 1272 = .ok (.invokevirtual 163, 3) by decide +kernel) (List.mem_filter.mp ml_RL_163).1 vok_X11_cooled (by decide) rfl nar_X11_cooled ⟨rfl, rfl⟩ (Nat.le_of_ble_eq_true rfl) (ok_X11_cooled fX) (fun o1 _ H1 locs1 v1 v2 hS => ?_)
  clear wX wM oX
  have wX := v1
  have wM := v2
  have oX := o1
  have dX := aW_D (σ' := σX1) dX
  have ap := apart2.left (σ' := σX1) ap
  refine lv_aload_n hx hb (show decode code 1275 = .ok (.aload_n 2, 1) by decide +kernel) rfl (lv_at hl 2 rfl) ?_
  refine lv_aload_n hx hb (show decode code 1276 = .ok (.aload_n 0, 1) by decide +kernel) rfl (lv_at hl 0 rfl) ?_
  refine lv_iload_n hx hb (show decode code 1277 = .ok (.iload_n 3, 1) by decide +kernel) rfl (lv_at hl 3 rfl) ?_
  refine lv_iconst (v := 1) hx hb (show decode code 1278 = .ok (.iconst 1, 1) by decide +kernel) (by decide) ?_
  refine lv_iadd hx hb (show decode code 1279 = .ok (.iadd, 1) by decide +kernel) ?_
  refine va_sld hx hb hX hbl hbA hS h1 (show decode code 1280 = .ok (.iaload, 1) by decide +kernel) ?_
  refine lv_aload_n hx hb (show decode code 1281 = .ok (.aload_n 0, 1) by decide +kernel) rfl (lv_at hl 0 rfl) ?_
  refine lv_iload_n hx hb (show decode code 1282 = .ok (.iload_n 3, 1) by decide +kernel) rfl (lv_at hl 3 rfl) ?_
  refine lv_iconst (v := 2) hx hb (show decode code 1283 = .ok (.iconst 2, 1) by decide +kernel) (by decide) ?_
  refine lv_iadd hx hb (show decode code 1284 = .ok (.iadd, 1) by decide +kernel) ?_
  refine va_sld hx hb hX hbl hbA hS h2 (show decode code 1285 = .ok (.iaload, 1) by decide +kernel) ?_
  refine lw_call (κ := κM) (ad := aM) (W2 := (aW ids aX κ σX1)) (P' := pX12_cooled) (d' := 3) (c0 := 12) (n := 0) (k := 0) [aI (xs (i + 1).toNatClampNeg), aI (xs (i + 2).toNatClampNeg)] [.int r] hx hb hml hl.1 hown hts hcs hK regM oM (List.forall_mem_cons.mpr ⟨okv_of rfl (by decide), List.forall_mem_cons.mpr ⟨trivial, List.forall_mem_cons.mpr ⟨trivial, (fun _ hn => absurd hn List.not_mem_nil)⟩⟩⟩) wM wX dM ap.symm hS hA xM okp_X12_cooled (show decode code 1286 = .ok (.invokevirtual 166, 3) by decide +kernel) (List.mem_filter.mp ml_RL_166).1 vok_X12_cooled (by decide) rfl nar_X12_cooled ⟨rfl, rfl⟩ (Nat.le_of_ble_eq_true rfl) (ok_X12_cooled fM) (fun o1 _ H1 locs1 v1 v2 hS => ?_)
  clear wX wM oM
  have wM := v1
  have wX := v2
  have oM := o1
  have dM := aW_D (σ' := σM1) dM
  have ap := (apart2.left (σ' := σM1) ap.symm).symm
  refine lv_icmp_eq (tgt := 1441) hx hb (show decode code 1289 = .ok (.if_icmp .eq 152, 3) by decide +kernel) (by decide) (fun _ => ?_) (fun z => absurd rfl z)
  exact kk _ _ ⟨wX, wM, dX, dM, ap, hS, xX, xM, rX, oX, oM, k0⟩
