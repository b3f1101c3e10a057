/-! Arrays.copyOf, over the kit's rows -/
def RJ7 : String := "java/util/Arrays"
def yCpO : MethodName := ⟨RJ7, "copyOf", "([II)[I"⟩
abbrev cCpO : ByteArray := prog_24_method_123_code
def yClo : MethodName := ⟨"[I", "clone", "()Ljava/lang/Object;"⟩
def yOCl : MethodName := ⟨"java/lang/Object", "clone", "()Ljava/lang/Object;"⟩
def CLO (U : State) : Prop := va_Nw (.castable "[I" "java/lang/Cloneable") U
theorem wCpO_code : Cond.code yCpO cCpO 3 (some (.array .int)) ∈ WS := wsm_3 (i := 182) rfl rfl
theorem wCpO_static : Cond.static yCpO ∈ WS := wsm_3 (i := 181) rfl rfl
theorem wCpO_init : Cond.initialized yCpO.cls ∈ WS := wsm_1 (i := 20) rfl rfl
theorem wClo_same : Cond.sameMethod "[I" "java/lang/Object" "clone" "()Ljava/lang/Object;" ∈ WS := wsm_3 (i := 184) rfl rfl
theorem wClo_nat : Cond.native yOCl ∈ WS := wsm_3 (i := 185) rfl rfl
theorem wClo_inst : Cond.instanceMethod yOCl ∈ WS := wsm_3 (i := 186) rfl rfl
theorem wClo_sel : Cond.selects "[I" yClo yOCl ∈ WS := wsm_3 (i := 187) rfl rfl
theorem arr_congr {cA : ClassId} {n : Nat} {f g : Nat → Int32} (h : ∀ j, j < n → f j = g j) : vp_cell cA (n, .inl f) = vp_cell cA (n, .inl g) := by
  show arrV cA n (fun j => .int (f j)) = arrV cA n (fun j => .int (g j))
  unfold arrV
  congr 1
  apply Array.ext
  · simp
  · intro i h1 h2
    simp only [Array.size_ofFn] at h1
    simp only [Array.getElem_ofFn]
    rw [h i h1]
theorem va_P.recell {D : va_G} {cl : List vw_C} {ws : va_W} {H : Heap} {q : Nat} {cA : ClassId} {n : Nat} {f g : Nat → Int32} (h : va_P D cl (ws ++ [(q, .inl (cA, n, .inl f))]) H) (e : ∀ j, j < n → f j = g j) : va_P D cl (ws ++ [(q, .inl (cA, n, .inl g))]) H := by
  intro k x hk
  by_cases hl : k < ws.length
  · exact h k x (by rw [List.getElem?_append_left hl]; rw [List.getElem?_append_left hl] at hk; exact hk)
  · rw [List.getElem?_append_right (by omega)] at hk
    have hz : k - ws.length < 1 := (List.getElem?_eq_some_iff.mp hk).1
    rw [show k - ws.length = 0 by omega] at hk
    cases hk
    have h1 := h ws.length (q, .inl (cA, n, .inl f)) (by rw [List.getElem?_append_right (Nat.le_refl _), Nat.sub_self]; rfl)
    show H[q]? = some (vp_cell cA (n, .inl g))
    have h2 : H[q]? = some (vp_cell cA (n, .inl f)) := h1
    rw [h2, arr_congr e]
theorem va_D.recell {A : Nat → Prop} {ws : va_W} {q : Nat} {e e2 : va_E} (h : va_D A (ws ++ [(q, e)])) : va_D A (ws ++ [(q, e2)]) := by
  have key : ∀ (k : Nat) (x : Nat × va_E), (ws ++ [(q, e2)])[k]? = some x → ∃ y : Nat × va_E, (ws ++ [(q, e)])[k]? = some y ∧ y.1 = x.1 := by
    intro k x hk
    by_cases hl : k < ws.length
    · rw [List.getElem?_append_left hl] at hk
      exact ⟨x, by rw [List.getElem?_append_left hl]; exact hk, rfl⟩
    · rw [List.getElem?_append_right (by omega)] at hk ⊢
      have hz : k - ws.length < 1 := (List.getElem?_eq_some_iff.mp hk).1
      rw [show k - ws.length = 0 by omega] at hk ⊢
      cases hk
      exact ⟨_, rfl, rfl⟩
  refine ⟨fun i j p r hi hj e1 => ?_, fun k x hk => ?_⟩
  · obtain ⟨y, y1, y2⟩ := key i p hi
    obtain ⟨z, z1, z2⟩ := key j r hj
    exact h.1 i j y z y1 z1 (by rw [y2, z2, e1])
  · obtain ⟨y, y1, y2⟩ := key k x hk
    rw [← y2]
    exact h.2 k y y1
set_option maxHeartbeats 4000000 in
set_option maxRecDepth 100000 in
theorem ct_copyOf (l : Launch) (D : va_G) (ids : Ids) (h0 n0 n : Nat) (f : Nat → Int32) (hn : n ≤ n0) (hn0 : n0 ≤ 1000) (sz : Nat) : Met l yCpO (.code yCpO cCpO 3 (some (.array .int)) :: WS) { frames := 1, cells := 1, slots := n, locals := 40 } (va_Pc [.ref h0, .int (nI n)] (fun U => U.heap.size = sz ∧ va_P D acl [(h0, .inl (ids.1, n0, .inl f))] U.heap ∧ va_K D acl (atys ids) U ∧ va_D (fun _ => True) [(h0, .inl (ids.1, n0, .inl f))] ∧ CLO U)) (va_Qr (S := Unit) (fun _ => True) (fun _ q t => va_P D acl ([(h0, .inl (ids.1, n0, .inl f))] ++ [(q, .inl (ids.1, n, .inl f))]) t.heap ∧ va_D (va_A [(h0, .inl (ids.1, n0, .inl f))] sz) ([(h0, .inl (ids.1, n0, .inl f))] ++ [(q, .inl (ids.1, n, .inl f))])) (va_A [(h0, .inl (ids.1, n0, .inl f))] sz)) 1 n (va_A [(h0, .inl (ids.1, n0, .inl f))] sz) := by
  refine Met.ofW (cc := cCpO) (maxL := 3) (ret := some (.array .int)) (by decide) rfl ?_
  intro p e s m args below meth c s₁ B hml hv
  obtain ⟨rfl, hsz, hP, hK, hD0, hC⟩ := hv
  have hx := B.exec
  have hb := B.bytes
  have hr := B.returns
  have hts0 := atoms_spec (ws := .code yCpO cCpO 3 (some (.array .int)) :: WS) B.pre
  have hts : ∀ w ∈ WS, w.before ([.ref h0, .int (nI n)] : List Value).toArray s = true := fun w hw => hts0 w (List.mem_cons_of_mem _ hw)
  have hown : s.vm.findClass RJ7 = some m.cls := findClass_of_methodNamed B.named
  have hlocks := B.notSynchronized
  subst hsz
  have hD := hD0.self (sz := s.heap.size)
  generalize hAe : va_A [(h0, .inl (ids.1, n0, .inl f))] s.heap.size = A at hD ⊢
  have hA : ∀ q : Nat, s.heap.size ≤ q → A q := fun q h => by rw [← hAe]; exact Or.inr h
  have hS : va_S A s.heap s.heap [] := va_S.rf
  have hP : va_P D acl [(h0, .inl (ids.1, n0, .inl f))] s.heap := hP
  have hl := lv_entry ([.ref h0, .int (nI n)]) (n := 3) (Nat.le_of_ble_eq_true rfl)
  rw [lg_entry_eq]
  generalize (lg_sl ([.ref h0, .int (nI n)]) ++ List.replicate (3 - (lg_sl ([.ref h0, .int (nI n)])).length) Slot.unset).toArray = ls at hl ⊢
  have hl : lv_has ls 3 [(0, .ref h0), (1, .int (nI n))] := hl
  refine lv_iload_n hx hb (show decode cCpO 0 = .ok (.iload_n 1, 1) by decide +kernel) rfl (lv_at hl 1 rfl) ?_
  refine lv_aload_n hx hb (show decode cCpO 1 = .ok (.aload_n 0, 1) by decide +kernel) rfl (lv_at hl 0 rfl) ?_
  refine va_alen (v := nI n0) hx hb hK hP 0 0 rfl rfl rfl (show decode cCpO 2 = .ok (.arraylength, 1) by decide +kernel) ?_
  refine lv_icmp_ne (tgt := 14) hx hb (show decode cCpO 3 = .ok (.if_icmp .ne 11, 3) by decide +kernel) (by decide) (fun z => ?_) (fun z => ?_)
  · have i0 : (nI n).toNatClampNeg = n := nI_clamp (by omega)
    have n0' : ¬ (nI n < 0) := nI_pos (by omega)
    refine lv_iload_n hx hb (show decode cCpO 14 = .ok (.iload_n 1, 1) by decide +kernel) rfl (lv_at hl 1 rfl) ?_
    refine va_newa (atype := .int) (ty := .int) (a0 := (n, .inl (fun _ => 0))) hx hb (hts (.arrayClass .int) (wsm_1 (i := 93) rfl rfl)) rfl hK hP hD hS hA (N' := n) (fun cA => rfl) n0' i0 (by show n * 4 ≤ _; omega) (Nat.le_refl _) (by show 0 + n ≤ n; omega) (show decode cCpO 15 = .ok (.newarray .int, 2) by decide +kernel) (fun q cA H hK1 hP hD hS => ?_)
    obtain rfl := ids_int hK1
    have hP : va_P D acl [(h0, .inl (ids.1, n0, .inl f)), (q, .inl (ids.1, n, .inl (fun _ => 0)))] H := hP
    have hD : va_D A [(h0, .inl (ids.1, n0, .inl f)), (q, .inl (ids.1, n, .inl (fun _ => 0)))] := hD
    refine W.widen (k := 1) (n := n) (Nat.le_refl _) (by omega) ?_
    refine lv_astore_n (lv' := [(2, .ref q), (0, .ref h0), (1, .int (nI n))]) hx hb (show decode cCpO 17 = .ok (.astore_n 2, 1) by decide +kernel) rfl hl (by decide) rfl (fun ls hl => ?_)
    refine lv_aload_n hx hb (show decode cCpO 18 = .ok (.aload_n 0, 1) by decide +kernel) rfl (lv_at hl 1 rfl) ?_
    refine lv_iconst (v := 0) hx hb (show decode cCpO 19 = .ok (.iconst 0, 1) by decide +kernel) (by decide) ?_
    refine lv_aload_n hx hb (show decode cCpO 20 = .ok (.aload_n 2, 1) by decide +kernel) rfl (lv_at hl 0 rfl) ?_
    refine lv_iconst (v := 0) hx hb (show decode cCpO 21 = .ok (.iconst 0, 1) by decide +kernel) (by decide) ?_
    refine lv_aload_n hx hb (show decode cCpO 22 = .ok (.aload_n 0, 1) by decide +kernel) rfl (lv_at hl 1 rfl) ?_
    refine va_alen (v := nI n0) hx hb hK hP 0 0 rfl rfl rfl (show decode cCpO 23 = .ok (.arraylength, 1) by decide +kernel) ?_
    refine lv_iload_n hx hb (show decode cCpO 24 = .ok (.iload_n 1, 1) by decide +kernel) rfl (lv_at hl 2 rfl) ?_
    refine va_mmin hx hb (by rw [hml]; exact hl.1.symm) hown (hts _ (wsm_3 (i := 190) rfl rfl)) (hts _ (wsm_2 (i := 189) rfl rfl)) (hts _ (wsm_1 (i := 13) rfl rfl)) (hts _ (wsm_2 (i := 190) rfl rfl)) (Nat.le_of_ble_eq_true rfl) (Nat.le_of_ble_eq_true rfl) (Nat.le_refl _) (Nat.le_refl _) (show decode cCpO 25 = .ok (.invokestatic 304, 3) by decide +kernel) ?_
    have em : (if nI n < nI n0 then nI n else nI n0) = nI n := by
      by_cases y : nI n < nI n0
      · rw [if_pos y]
      · rw [if_neg y]
        have : ¬ n < n0 := fun w => y (nI_lt w (by omega))
        rw [show n0 = n by omega]
    rw [em]
    refine va_copyi hx hb (by rw [hml]; exact hl.1.symm) hown (hts _ (wsm_3 (i := 191) rfl rfl)) (hts _ (wsm_3 (i := 193) rfl rfl)) (hts _ (wsm_3 (i := 192) rfl rfl)) (hts _ (wsm_1 (i := 21) rfl rfl)) hK hP hD hS 0 1 0 0 rfl rfl rfl rfl rfl (by decide) (by decide) n0' (by show 0 + _ ≤ _; rw [i0]; omega) (by show 0 + _ ≤ _; rw [i0]; omega) (fun i hi => rfl) (Nat.le_of_ble_eq_true rfl) (Nat.le_of_ble_eq_true rfl) (show decode cCpO 28 = .ok (.invokestatic 150, 3) by decide +kernel) (fun H locs hP hD hS => ?_)
    have hP : va_P D acl ([(h0, .inl (ids.1, n0, .inl f))] ++ [(q, .inl (ids.1, n, .inl (va_cpy f (fun _ => 0) 0 0 (nI n).toNatClampNeg)))]) H := hP
    have hP := hP.recell (g := f) (fun j hj => by
      rw [i0]
      unfold va_cpy
      rw [if_pos ⟨Nat.zero_le _, by omega⟩, Nat.sub_zero, Nat.zero_add])
    have hD : va_D A ([(h0, .inl (ids.1, n0, .inl f))] ++ [(q, .inl (ids.1, n, .inl (va_cpy f (fun _ => 0) 0 0 (nI n).toNatClampNeg)))]) := hD
    have hD := hD.recell (e2 := .inl (ids.1, n, .inl f))
    refine lv_aload_n hx hb (show decode cCpO 31 = .ok (.aload_n 2, 1) by decide +kernel) rfl (lv_at hl 0 rfl) ?_
    exact W.aret hx hb hr (Or.inr ⟨_, rfl⟩) (Or.inr ⟨q, rfl⟩) (fun t ht hW => ⟨⟨(), q, rfl, trivial, by rw [ht]; exact hP, hD⟩, hS.F ht⟩) hS.2.2 (show decode cCpO 32 = .ok (.areturn, 1) by decide +kernel)
  · have nn : n = n0 := (nI_eq (by omega) (by omega)).mp z
    subst nn
    have hRA : s.vm.findClass "[I" = some ids.1 := (hK.2 0 _ rfl).2
    refine lv_aload_n hx hb (show decode cCpO 6 = .ok (.aload_n 0, 1) by decide +kernel) rfl (lv_at hl 0 rfl) ?_
    refine va_clone hx hb (by rw [hml]; exact hl.1.symm) hown (hts _ (wsm_3 (i := 183) rfl rfl)) (hts _ wClo_same) (hts _ wClo_nat) (hts _ wClo_inst) (hts _ wClo_sel) hC hK hP hD hS hA 0 0 rfl rfl hRA (va_fit (fun i hi => rfl)) (Nat.le_of_ble_eq_true rfl) (Nat.le_of_ble_eq_true rfl) (Nat.le_refl _) (by show 0 + n ≤ n; omega) (show decode cCpO 7 = .ok (.invokevirtual 316, 3) by decide +kernel) (fun q H hK1 hP hD hS => ?_)
    have hP : va_P D acl ([(h0, .inl (ids.1, n, .inl f))] ++ [(q, .inl (ids.1, n, .inl f))]) H := hP
    have hD : va_D A ([(h0, .inl (ids.1, n, .inl f))] ++ [(q, .inl (ids.1, n, .inl f))]) := hD
    refine W.widen (k := 1) (n := n) (Nat.le_refl _) (by show 0 + n ≤ n; omega) ?_
    refine va_castA hx hb hown (hts (.classLink RJ7 317 "[I") (wsm_3 (i := 189) rfl rfl)) hP 1 rfl hRA (show decode cCpO 10 = .ok (.checkcast 317, 3) by decide +kernel) ?_
    exact W.aret hx hb hr (Or.inr ⟨_, rfl⟩) (Or.inr ⟨q, rfl⟩) (fun t ht hW => ⟨⟨(), q, rfl, trivial, by rw [ht]; exact hP, hD⟩, hS.F ht⟩) hS.2.2 (show decode cCpO 13 = .ok (.areturn, 1) by decide +kernel)
