/-! a call of the law: one world of two -/
def apart2 (W1 W2 : va_W) : Prop := ∀ (i j : Nat) (p q : Nat × va_E), W1[i]? = some p → W2[j]? = some q → p.1 ≠ q.1
theorem apart2.symm {W1 W2 : va_W} (h : apart2 W1 W2) : apart2 W2 W1 := fun i j p q hi hj e => h j i q p hj hi e.symm
theorem apart2.left {κ : Kd} {ids : Ids} {ad : Nat → Nat} {σ σ' : Sg} {W2 : va_W} (h : apart2 (aW ids ad κ σ) W2) : apart2 (aW ids ad κ σ') W2 := by
  intro i j p q hi hj
  obtain ⟨e1, h1⟩ := aW_addr (σ := σ) hi
  exact h i j (p.1, e1) q h1 hj
theorem goodIn_tbl {P' : AP} (hP' : POK P') : GoodIn lw_tbl (ccd P' :: WS) := by
  intro w hw
  have hw2 : w ∈ WS := by
    rcases List.mem_cons.mp hw with rfl | hw
    · exact hP'.1
    · exact hw
  exact ⟨(List.mem_filter.mp hw2).1, good_of_word (ws_good _ hw2)⟩
theorem lw_call {κ : Kd} {P' : AP} {p : Program} {l : Launch} {e : Env} {s : State} {m : MethodId} {args : Array Value} {below : List Frame} {meth : Method} {c : Code} {H : Heap} {locs : List Loc} {ls : Array Slot} {D : va_G} {ids : Ids} {ad : Nat → Nat} {A : Nat → Prop} {σ σ' : Sg} {W2 : va_W} {Q : State → Prop} {cc : ByteArray} {own : String} {pc idx d' c0 n k nL cells slots : Nat} (As : List AV) (rest : List Value) {ov : Option AV}
    (hx : p.tables.exec = Jvm.exec) (hb : c.code = cc) (hml : c.maxLocals = nL) (hls : ls.size = nL) (hown : s.vm.findClass own = some m.cls) (hts : ∀ w ∈ lw_tbl, w.before args s = true) (hcs : cells ≤ room_1.cells ∧ slots ≤ room_1.slots)
    (hK : va_K D acl (atys ids) s) (hR : Reg κ) (hok : okσ κ σ) (hargs : ∀ v ∈ aR c0 n k :: As, okv κ v) (hW : va_P D acl (aW ids ad κ σ) H) (hW2 : va_P D acl W2 H) (hD : va_D A (aW ids ad κ σ)) (hap : apart2 (aW ids ad κ σ) W2) (hS : va_S A s.heap H locs) (hA : ∀ q, s.heap.size ≤ q → A q) (hX : XK ad A s s.heap)
    (hP' : POK P') (hd : decode cc pc = .ok (.invokevirtual idx, 3)) (hl : Cond.methodLink own idx P'.1 ∈ lw_tbl) (hv : VOK P') (hc : c0 < 13) (hcn : (cN c0).1 = P'.1.cls) (hn : nargs P' As.length) (hr : Nat.ble (d' + 1) 2048 = true ∧ Nat.ble (8 + (P'.2.2.1 + 11) + 40 * d') 84000 = true)
    (h8 : (rest.map fun v => v.category).sum ≤ 8) (hM : AMet κ P' d' (aR c0 n k :: As) σ (ov, σ'))
    (kk : okσ κ σ' → (∀ v, ov = some v → okv κ v) → ∀ (H1 : Heap) (locs1 : List Loc), va_P D acl (aW ids ad κ σ') H1 → va_P D acl W2 H1 → va_S A s.heap H1 locs1 → W p l e room_1 s m args below meth c H1 locs1 cells slots Q (F0 m (pc + 3) ls ((ov.map (cv ad)).toList ++ rest))) :
    W p l e room_1 s m args below meth c H locs cells slots Q (F0 m pc ls ((As.map (cv ad)).reverse ++ .ref (ad k) :: rest)) := by
  obtain ⟨hO, hMM⟩ := hM hR hok hargs
  have hk : κ[k]? = some (c0, n) := okv_at (hargs _ List.mem_cons_self) (by omega)
  have hF := aW_free hD hS hA
  have hts2 : ∀ w ∈ WS, w.before args s = true := fun w hw => hts w (List.mem_filter.mp hw).1
  have hrm : (rmA d').frames + 1 ≤ room_1.frames ∧ 8 + (P'.2.2.1 + 11) + (rmA d').locals ≤ room_1.locals := ⟨Nat.le_of_ble_eq_true hr.1, Nat.le_of_ble_eq_true hr.2⟩
  have hrun := va_runV (p := p) (l := l) (e := e) (R := room_1) (s := s) (m := m) (args := args) (below := below) (meth := meth) (c := c) (H := H) (locs := locs) (cells := cells) (slots := slots) (g := F0 m pc ls ((As.map (cv ad)).reverse ++ .ref (ad k) :: rest)) (As := As.map (cv ad)) (b := ad k) (rest := rest) (C := P'.1.cls) (n := As.length)
    ⟨hx, hb, hml, hown, hts⟩ (hMM l D ids ad H.size)
    ⟨callB_of As.length hts (goodIn_tbl hP') rfl rfl rfl (hts2 _ hv.2.2.1) (hts _ hl) ⟨hv.2.2.2.1, hv.2.2.2.2, hn⟩ hrm, hts2 _ hv.1, hts2 _ hv.2.1⟩
    ⟨fun a U g mk q => by obtain ⟨q0, q1, qP, qK, qD, qX⟩ := q; exact ⟨q0, q1, qP, va_K.moved (u := U) (U := U.calling g mk a) (Vm.Alike.refl U.vm) qK, qD, XK.same (U := U.calling g mk a) qX rfl⟩,
      by rw [← hcn]; exact va_recv hK hW (acl_cN hc) ((aW_get hk).trans (by rw [ce_obj hc])),
      fun U hU hWm => ⟨rfl, by rw [hU], by rw [hU]; exact hW, va_K.moved hWm.alike hK, hD.weaken (fun _ _ _ _ => trivial), hX.call hS hF hU hWm⟩⟩
    rfl (by simp) hls rfl (lv_room h8) hd ⟨hcs.1, hcs.2⟩
  intro T hT X
  obtain ⟨v, st₀, t, T', Lc, h0, X', hL, e1, e2, ⟨⟨hvv, hp, hkk⟩, hz, hkf⟩, st⟩ := hrun T hT X
  cases hvv
  rw [h0] at hz hkf
  have hkeep : ∀ q : Nat, q < H.size → ¬ va_A (aW ids ad κ σ) H.size q → T'.heap[q]? = H[q]? := fun q h1 h2 => by rw [e1]; exact hkf q h1 h2
  have hW2' : va_P D acl W2 T'.heap := hW2.kept (fun i x hx2 => hkeep x.1 ((hW2 i x hx2).lt) (fun hq => by
    rcases hq with ⟨j, ee, hj⟩ | hq
    · exact hap j i (x.1, ee) x hj hx2 rfl
    · have := (hW2 i x hx2).lt; omega))
  obtain ⟨t2, a1, b1⟩ := kk hO.1 hO.2 T'.heap (locs ++ Lc) (by rw [e1]; exact hp) hW2'
    ⟨Nat.le_trans hS.1 (by rw [e1]; exact hz), fun q h1 h2 => by rw [hkeep q (Nat.lt_of_lt_of_le h1 hS.1) (fun z => h2 (hF q z))]; exact hS.2.1 q h1 h2, fun q hq => by
      rcases List.mem_append.mp hq with h | h
      · exact hS.2.2 q h
      · exact hF _ (hL q h)⟩ T' rfl X'
  exact ⟨t2, st t2 a1, b1⟩
