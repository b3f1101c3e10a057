/-! calls in any room; worlds that grow -/
theorem one_world {a q : Nat} {e : va_E} {sz : Nat} (h : va_A [(a, e)] sz q) : q = a ∨ sz ≤ q := by
  rcases h with ⟨k, x, h⟩ | h
  · have hz : k < 1 := (List.getElem?_eq_some_iff.mp h).1
    rw [show k = 0 by omega] at h
    cases h
    exact Or.inl rfl
  · exact Or.inr h
/-- a world of which one cell was the callee's, and came back as it was; one more beside it -/
theorem grow1 {D : va_G} {A0 : Nat → Prop} {ws : va_W} {H H1 : Heap} {k0 a ra : Nat} {e e2 : va_E} (hP : va_P D acl ws H) (hD : va_D A0 ws) (hA : ∀ q, H.size ≤ q → A0 q) (he : ws[k0]? = some (a, e)) (hk : ∀ q : Nat, q < H.size → ¬ va_A [(a, e)] H.size q → H1[q]? = H[q]?) (hP1 : va_P D acl ([(a, e)] ++ [(ra, e2)]) H1) (hD1 : va_D (va_A [(a, e)] H.size) ([(a, e)] ++ [(ra, e2)])) : va_P D acl (ws ++ [(ra, e2)]) H1 ∧ va_D A0 (ws ++ [(ra, e2)]) := by
  have hra : H.size ≤ ra := by
    rcases one_world (hD1.2 1 (ra, e2) rfl) with h | h
    · have := hD1.1 0 1 (a, e) (ra, e2) rfl rfl h.symm
      omega
    · exact h
  have one : ∀ (k : Nat) (x : Nat × va_E), [(ra, e2)][k]? = some x → x = (ra, e2) := by
    intro k x hx
    have hz : k < 1 := (List.getElem?_eq_some_iff.mp hx).1
    rw [show k = 0 by omega] at hx
    cases hx
    rfl
  refine ⟨va_P.app (fun k x hx => ?_) (fun k x hx => ?_), va_D.app hD ⟨fun i j p q hi hj _ => ?_, fun k x hx => ?_⟩ (fun i j p q hi hj h => ?_)⟩
  · by_cases y : x.1 = a
    · have e1 : k = k0 := hD.1 k k0 x (a, e) hx he y
      rw [e1, he] at hx
      cases hx
      exact hP1 0 (a, e) rfl
    · have l := (hP k x hx).lt
      exact (hP k x hx).kept (hk _ l (fun q => by
        rcases one_world q with q | q
        · exact y q
        · omega))
  · rw [one k x hx]
    exact hP1 1 (ra, e2) rfl
  · have h1 : i < 1 := (List.getElem?_eq_some_iff.mp hi).1
    have h2 : j < 1 := (List.getElem?_eq_some_iff.mp hj).1
    omega
  · rw [one k x hx]
    exact hA _ hra
  · rw [one j q hj] at h
    have := (hP i p hi).lt
    omega
theorem set_get {ws : va_W} {k0 k : Nat} {y x : Nat × va_E} (h : (ws.set k0 y)[k]? = some x) (hk : k ≠ k0) : ws[k]? = some x := by
  rw [List.getElem?_set_ne (fun e => hk e.symm)] at h
  exact h
/-- a world of which one cell was the callee's, and came back otherwise -/
theorem set1 {D : va_G} {A0 : Nat → Prop} {ws : va_W} {H H1 : Heap} {k0 a : Nat} {e e2 : va_E} (hP : va_P D acl ws H) (hD : va_D A0 ws) (he : ws[k0]? = some (a, e)) (hk : ∀ q : Nat, q < H.size → ¬ va_A [(a, e)] H.size q → H1[q]? = H[q]?) (hP1 : va_P D acl [(a, e2)] H1) : va_P D acl (ws.set k0 (a, e2)) H1 ∧ va_D A0 (ws.set k0 (a, e2)) := by
  have hl : k0 < ws.length := (List.getElem?_eq_some_iff.mp he).1
  have at0 : (ws.set k0 (a, e2))[k0]? = some (a, e2) := by
    rw [List.getElem?_set_self hl]
  have key : ∀ (k : Nat) (x : Nat × va_E), (ws.set k0 (a, e2))[k]? = some x → ∃ y, ws[k]? = some y ∧ y.1 = x.1 := by
    intro k x hx
    by_cases y : k = k0
    · rw [y, at0] at hx
      cases hx
      exact ⟨(a, e), by rw [y]; exact he, rfl⟩
    · exact ⟨x, set_get hx y, rfl⟩
  refine ⟨fun k x hx => ?_, fun i j p q hi hj h => ?_, fun k x hx => ?_⟩
  · by_cases y : k = k0
    · rw [y, at0] at hx
      cases hx
      exact hP1 0 (a, e2) rfl
    · have hx2 := set_get hx y
      have l := (hP k x hx2).lt
      exact (hP k x hx2).kept (hk _ l (fun q => by
        rcases one_world q with q | q
        · exact y (hD.1 k k0 x (a, e) hx2 he q)
        · omega))
  · obtain ⟨y, y1, y2⟩ := key i p hi
    obtain ⟨z, z1, z2⟩ := key j q hj
    exact hD.1 i j y z y1 z1 (by rw [y2, z2, h])
  · obtain ⟨y, y1, y2⟩ := key k x hx
    rw [← y2]
    exact hD.2 k y y1
section GW
variable {p : Program} {l : Launch} {e : Env} {R : Room} {s : State} {m : MethodId} {args : Array Value} {below : List Frame} {meth : Method} {c : Code} {H : Heap} {locs : List Loc} {cells slots : Nat} {Q : State → Prop} {cc : ByteArray} {ls : Array Slot} {own : String} {w0 : Cond} {nL pc idx : Nat} {D : va_G} {ids : Ids} {A : Nat → Prop} {ws : va_W}
theorem gw_call {κ : Kd} {P' : AP} {ad : Nat → Nat} {σ σ' : Sg} {d' c0 n k : Nat} (As : List AV) (rest : List Value) {ov : Option AV}
    (hx : p.tables.exec = Jvm.exec) (hb : c.code = cc) (hml : c.maxLocals = nL) (hls : ls.size = nL) (hown : s.vm.findClass own = some m.cls) (hts : ∀ w ∈ w0 :: WS, w.before args s = true) (hcs : cells ≤ R.cells ∧ slots ≤ R.slots)
    (hK : va_K D acl (atys ids) s) (hR : Reg κ) (hok : okσ κ σ) (hargs : ∀ v ∈ aR c0 n k :: As, okv κ v) (hW : va_P D acl (aW ids ad κ σ) H) (hD : va_D A (aW ids ad κ σ)) (hS : va_S A s.heap H locs) (hA : ∀ q, s.heap.size ≤ q → A q) (hX : XK ad A s s.heap)
    (hP' : POK P') (hd : decode cc pc = .ok (.invokevirtual idx, 3)) (hl : Cond.methodLink own idx P'.1 ∈ WS) (hv : VOK P') (hc : c0 < 13) (hcn : (cN c0).1 = P'.1.cls) (hn : nargs P' As.length) (hr : Nat.ble (d' + 1) R.frames = true ∧ Nat.ble (8 + (P'.2.2.1 + 11) + 40 * d') R.locals = true)
    (h8 : (rest.map fun v => v.category).sum ≤ 8) (hM : AMet κ P' d' (aR c0 n k :: As) σ (ov, σ'))
    (kk : okσ κ σ' → (∀ v, ov = some v → okv κ v) → ∀ (H1 : Heap) (locs1 : List Loc), va_P D acl (aW ids ad κ σ') H1 → va_S A s.heap H1 locs1 → W p l e R s m args below meth c H1 locs1 cells slots Q (F0 m (pc + 3) ls ((ov.map (cv ad)).toList ++ rest))) :
    W p l e R s m args below meth c H locs cells slots Q (F0 m pc ls ((As.map (cv ad)).reverse ++ .ref (ad k) :: rest)) := by
  obtain ⟨hO, hMM⟩ := hM hR hok hargs
  have hk : κ[k]? = some (c0, n) := okv_at (hargs _ List.mem_cons_self) (by omega)
  have hF := aW_free hD hS hA
  have hts2 : ∀ w ∈ WS, w.before args s = true := fun w hw => hts w (List.mem_cons_of_mem _ hw)
  have hrm : (rmA d').frames + 1 ≤ R.frames ∧ 8 + (P'.2.2.1 + 11) + (rmA d').locals ≤ R.locals := ⟨Nat.le_of_ble_eq_true hr.1, Nat.le_of_ble_eq_true hr.2⟩
  have hrun := va_runV (p := p) (l := l) (e := e) (R := R) (s := s) (m := m) (args := args) (below := below) (meth := meth) (c := c) (H := H) (locs := locs) (cells := cells) (slots := slots) (g := F0 m pc ls ((As.map (cv ad)).reverse ++ .ref (ad k) :: rest)) (As := As.map (cv ad)) (b := ad k) (rest := rest) (C := P'.1.cls) (n := As.length)
    ⟨hx, hb, hml, hown, hts⟩ (hMM l D ids ad H.size)
    ⟨callB_of As.length hts (goodIn_cw hP'.1) rfl rfl rfl (hts2 _ hv.2.2.1) (hts2 _ hl) ⟨hv.2.2.2.1, hv.2.2.2.2, hn⟩ hrm, hts2 _ hv.1, hts2 _ hv.2.1⟩
    ⟨fun a U g mk q => by obtain ⟨q0, q1, qP, qK, qD, qX⟩ := q; exact ⟨q0, q1, qP, va_K.moved (u := U) (U := U.calling g mk a) (Vm.Alike.refl U.vm) qK, qD, XK.same (U := U.calling g mk a) qX rfl⟩,
      by rw [← hcn]; exact va_recv hK hW (acl_cN hc) ((aW_get hk).trans (by rw [ce_obj hc])),
      fun U hU hWm => ⟨rfl, by rw [hU], by rw [hU]; exact hW, va_K.moved hWm.alike hK, hD.weaken (fun _ _ _ _ => trivial), hX.call hS hF hU hWm⟩⟩
    rfl (by simp) hls rfl (lv_room h8) hd ⟨hcs.1, hcs.2⟩
  intro T hT X
  obtain ⟨v, st₀, t, T', Lc, h0, X', hL, e1, e2, ⟨⟨hvv, hp, hkk⟩, hz, hkf⟩, st⟩ := hrun T hT X
  cases hvv
  rw [h0] at hz hkf
  have hkeep : ∀ q : Nat, q < H.size → ¬ va_A (aW ids ad κ σ) H.size q → T'.heap[q]? = H[q]? := fun q h1 h2 => by rw [e1]; exact hkf q h1 h2
  obtain ⟨t2, a1, b1⟩ := kk hO.1 hO.2 T'.heap (locs ++ Lc) (by rw [e1]; exact hp)
    ⟨Nat.le_trans hS.1 (by rw [e1]; exact hz), fun q h1 h2 => by rw [hkeep q (Nat.lt_of_lt_of_le h1 hS.1) (fun z => h2 (hF q z))]; exact hS.2.1 q h1 h2, fun q hq => by
      rcases List.mem_append.mp hq with h | h
      · exact hS.2.2 q h
      · exact hF _ (hL q h)⟩ T' rfl X'
  exact ⟨t2, st t2 a1, b1⟩
theorem gw_get {ad : Nat → Nat} {σ : Sg} {c0 n j k q0 : Nat} {f : FK} {rest : List Value} (hx : p.tables.exec = Jvm.exec) (hb : c.code = cc) (hts : ∀ w ∈ w0 :: WS, w.before args s = true) (hown : s.vm.findClass own = some m.cls) (hK : va_K D acl (atys ids) s) (hP : va_P D acl ws H) (he : ws[q0]? = some (ad k, ce ids ad σ k (c0, n))) (hc : c0 < 13) (hf : (flds c0)[j]? = some f) (hj : j < (cN c0).2.2) (hl : Cond.fieldLink own idx ((cN c0).2.1 j).1 ((cN c0).2.1 j).2.1 ((cN c0).2.1 j).2.2.1 ∈ WS) (hd : decode cc pc = .ok (.getfield idx, 3))
    (kk : W p l e R s m args below meth c H locs cells slots Q (F0 m (pc + 3) ls (fv ad σ k j f :: rest))) : W p l e R s m args below meth c H locs cells slots Q (F0 m pc ls (.ref (ad k) :: rest)) :=
  va_get hx hb hts (fun w hw => List.mem_cons_of_mem _ (cN_ws hc w hw)) hown hK hP q0 (he.trans (by rw [ce_obj hc])) (acl_cN hc) j hj (hts _ (List.mem_cons_of_mem _ hl)) (fun _ h9 => h9) (v := fv ad σ k j f) (by rw [List.getElem?_mapIdx, hf]; rfl) hd kk
theorem gw_copyOf {a k0 n0 n : Nat} {f : Nat → Int32} {rest : List Value} (hx : p.tables.exec = Jvm.exec) (hb : c.code = cc) (hml : c.maxLocals = nL) (hls : ls.size = nL) (hown : s.vm.findClass own = some m.cls) (hts : ∀ w ∈ w0 :: WS, w.before args s = true) (hcs : cells + 1 ≤ R.cells ∧ slots + n ≤ R.slots) (hK : va_K D acl (atys ids) s) (hP : va_P D acl ws H) (hD : va_D A ws) (hS : va_S A s.heap H locs) (hA : ∀ q, s.heap.size ≤ q → A q) (hC : CLO s) (he : ws[k0]? = some (a, .inl (ids.1, n0, .inl f))) (hn : n ≤ n0) (hn0 : n0 ≤ 1000) (hl : Cond.methodLink own idx yCpO ∈ WS) (hd : decode cc pc = .ok (.invokestatic idx, 3)) (hr : 2 ≤ R.frames ∧ 62 ≤ R.locals) (h8 : (rest.map fun v => v.category).sum ≤ 8)
    (kk : ∀ (q : Nat) (H1 : Heap) (locs1 : List Loc), va_P D acl (ws ++ [(q, .inl (ids.1, n, .inl f))]) H1 → va_D A (ws ++ [(q, .inl (ids.1, n, .inl f))]) → va_S A s.heap H1 locs1 → W p l e R s m args below meth c H1 locs1 (cells + 1) (slots + n) Q (F0 m (pc + 3) ls (.ref q :: rest))) : W p l e R s m args below meth c H locs cells slots Q (F0 m pc ls (.int (nI n) :: .ref a :: rest)) := by
  have hts2 : ∀ w ∈ WS, w.before args s = true := fun w hw => hts w (List.mem_cons_of_mem _ hw)
  have he0 : ([k0].map fun i => ws[i]?) = [((a, .inl (ids.1, n0, .inl f)) : Nat × va_E)].map some := by
    show [ws[k0]?] = _
    rw [he]
    rfl
  have hF := va_free (wc := [(a, .inl (ids.1, n0, .inl f))]) hD hS hA [k0] he0
  have hPc : va_P D acl [(a, .inl (ids.1, n0, .inl f))] H := fun k x hk => by
    have hz : k < 1 := (List.getElem?_eq_some_iff.mp hk).1
    rw [show k = 0 by omega] at hk
    cases hk
    exact hP k0 _ he
  have hDc : va_D (fun _ => True) [((a, .inl (ids.1, n0, .inl f)) : Nat × va_E)] := ⟨fun i j x y hi hj _ => by
    have h1 : i < 1 := (List.getElem?_eq_some_iff.mp hi).1
    have h2 : j < 1 := (List.getElem?_eq_some_iff.mp hj).1
    omega, fun _ _ _ => trivial⟩
  refine va_callr (va_runS (As := [.ref a, .int (nI n)]) (rest := rest) (n := 2) ⟨hx, hb, hml, hown, hts⟩ (ct_copyOf l D ids a n0 n f hn hn0 H.size) ⟨callB_of 2 hts (goodIn_cw wCpO_code) rfl rfl rfl (hts2 _ wCpO_init) (hts2 _ hl) (by decide +kernel) ⟨hr.1, by show 8 + (3 + 11) + 40 ≤ _; exact hr.2⟩, hts2 _ wCpO_static⟩ ⟨fun a U g mk q => by obtain ⟨q0, q1, qP, qK, qD, qC⟩ := q; exact ⟨q0, q1, qP, va_K.moved (u := U) (U := U.calling g mk a) (Vm.Alike.refl U.vm) qK, qD, qC.same rfl rfl⟩, fun U hU hW => ⟨rfl, by rw [hU], by rw [hU]; exact hPc, va_K.moved hW.alike hK, hDc, hC.warmC hW⟩⟩ rfl rfl hls rfl (lv_room h8) hd hcs) hS (fun q _ h => hF q h) hF (fun u ra t H1 locs1 ht hvm _ hB hz1 hk1 hS1 => ?_)
  obtain ⟨hP1, hD1⟩ := hB
  rw [ht] at hP1
  obtain ⟨g1, g2⟩ := grow1 hP hD (fun q h => hA q (Nat.le_trans hS.1 h)) he hk1 hP1 hD1
  exact kk ra H1 locs1 g1 g2 hS1
end GW
