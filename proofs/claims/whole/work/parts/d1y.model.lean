/-! constructor: the reference (printed by wip/whole/gen_model.py) -/
section GWS
variable {p : Program} {l : Launch} {e : Env} {R : Room} {s : State} {m : MethodId} {args : Array Value} {below : List Frame} {meth : Method} {c : Code} {H : Heap} {locs : List Loc} {cells slots : Nat} {Q : State → Prop} {cc : ByteArray} {ls : Array Slot} {own : String} {w0 : Cond} {nL pc idx : Nat} {D : va_G} {ids : Ids} {A : Nat → Prop}
theorem gw_callS {κ : Kd} {P' : AP} {ad : Nat → Nat} {σ σ' : Sg} {d' : Nat} (As : List AV) (rest : List Value) {ov : Option AV}
    (hx : p.tables.exec = Jvm.exec) (hb : c.code = cc) (hml : c.maxLocals = nL) (hls : ls.size = nL) (hown : s.vm.findClass own = some m.cls) (hts : ∀ w ∈ w0 :: WS, w.before args s = true) (hcs : cells ≤ R.cells ∧ slots ≤ R.slots)
    (hK : va_K D acl (atys ids) s) (hR : Reg κ) (hok : okσ κ σ) (hargs : ∀ v ∈ As, okv κ v) (hW : va_P D acl (aW ids ad κ σ) H) (hD : va_D A (aW ids ad κ σ)) (hS : va_S A s.heap H locs) (hA : ∀ q, s.heap.size ≤ q → A q) (hX : XK ad A s s.heap)
    (hP' : POK P') (hd : decode cc pc = .ok (.invokestatic idx, 3)) (hl : Cond.methodLink own idx P'.1 ∈ WS) (hv : TOK P') (hn : nargs P' As.length) (hr : Nat.ble (d' + 1) R.frames = true ∧ Nat.ble (8 + (P'.2.2.1 + 11) + 40 * d') R.locals = true)
    (h8 : (rest.map fun v => v.category).sum ≤ 8) (hM : AMet κ P' d' As σ (ov, σ'))
    (kk : okσ κ σ' → (∀ v, ov = some v → okv κ v) → ∀ (H1 : Heap) (locs1 : List Loc), va_P D acl (aW ids ad κ σ') H1 → va_S A s.heap H1 locs1 → W p l e R s m args below meth c H1 locs1 cells slots Q (F0 m (pc + 3) ls ((ov.map (cv ad)).toList ++ rest))) :
    W p l e R s m args below meth c H locs cells slots Q (F0 m pc ls ((As.map (cv ad)).reverse ++ rest)) := by
  obtain ⟨hO, hMM⟩ := hM hR hok hargs
  have hF := aW_free hD hS hA
  have hts2 : ∀ w ∈ WS, w.before args s = true := fun w hw => hts w (List.mem_cons_of_mem _ hw)
  have hrm : (rmA d').frames + 1 ≤ R.frames ∧ 8 + (P'.2.2.1 + 11) + (rmA d').locals ≤ R.locals := ⟨Nat.le_of_ble_eq_true hr.1, Nat.le_of_ble_eq_true hr.2⟩
  have hrun := va_runS (p := p) (l := l) (e := e) (R := R) (s := s) (m := m) (args := args) (below := below) (meth := meth) (c := c) (H := H) (locs := locs) (cells := cells) (slots := slots) (g := F0 m pc ls ((As.map (cv ad)).reverse ++ rest)) (As := As.map (cv ad)) (rest := rest) (n := As.length)
    ⟨hx, hb, hml, hown, hts⟩ (hMM l D ids ad H.size)
    ⟨callB_of As.length hts (goodIn_cw hP'.1) rfl rfl rfl (hts2 _ hv.2.1) (hts2 _ hl) ⟨hv.2.2.1, hv.2.2.2, hn⟩ hrm, hts2 _ hv.1⟩
    ⟨fun a U g mk q => by obtain ⟨q0, q1, qP, qK, qD, qX⟩ := q; exact ⟨q0, q1, qP, va_K.moved (u := U) (U := U.calling g mk a) (Vm.Alike.refl U.vm) qK, qD, XK.same (U := U.calling g mk a) qX rfl⟩,
      fun U hU hWm => ⟨rfl, by rw [hU], by rw [hU]; exact hW, va_K.moved hWm.alike hK, hD.weaken (fun _ _ _ _ => trivial), hX.call hS hF hU hWm⟩⟩
    rfl (by simp) hls rfl (lv_room h8) hd ⟨hcs.1, hcs.2⟩
  intro T hT X
  obtain ⟨v, st₀, t, T', Lc, h0, X', hL, e1, e2, ⟨⟨hvv, hp, hkk⟩, hz, hkf⟩, st⟩ := hrun T hT X
  cases hvv
  rw [h0] at hz hkf
  have hkeep : ∀ q : Nat, q < H.size → ¬ va_A (aW ids ad κ σ) H.size q → T'.heap[q]? = H[q]? := fun q h1 h2 => by rw [e1]; exact hkf q h1 h2
  obtain ⟨t2, a1, b1⟩ := kk hO.1 hO.2 T'.heap (locs ++ Lc) (by rw [e1]; exact hp)
    ⟨Nat.le_trans hS.1 (by rw [e1]; exact hz), fun q h1 h2 => by rw [hkeep q (Nat.lt_of_lt_of_le h1 hS.1) (fun z => h2 (hF q z))]; exact hS.2.1 q h1 h2, fun q hq => by
      rcases List.mem_append.mp hq with h | h
      · exact hS.2.2 q h
      · exact hF _ (hL q h)⟩ T' rfl X'
  exact ⟨t2, st t2 a1, b1⟩
end GWS
theorem gw_iast {p : Program} {l : Launch} {e : Env} {R : Room} {s : State} {m : MethodId} {args : Array Value} {below : List Frame} {meth : Method} {c : Code} {H : Heap} {locs : List Loc} {cells slots : Nat} {Q : State → Prop} {cc : ByteArray} {ls : Array Slot} {pc : Nat} {D : va_G} {ids : Ids} {A : Nat → Prop} {κ : Kd} {ad : Nat → Nat} {σ : Sg} {n k : Nat} {y v : Int32} {rest : List Value} (hx : p.tables.exec = Jvm.exec) (hb : c.code = cc) (hK : va_K D acl (atys ids) s) (hW : va_P D acl (aW ids ad κ σ) H) (hD : va_D A (aW ids ad κ σ)) (hS : va_S A s.heap H locs) (hk : κ[k]? = some (13, n)) (hg : inb y n = true) (hd : decode cc pc = .ok (.iastore, 1))
    (kk : ∀ (H1 : Heap) (locs1 : List Loc), va_P D acl (aW ids ad κ (wI σ k (ix y) v)) H1 → va_D A (aW ids ad κ (wI σ k (ix y) v)) → va_S A s.heap H1 locs1 → W p l e R s m args below meth c H1 locs1 cells slots Q (F0 m (pc + 1) ls rest)) : W p l e R s m args below meth c H locs cells slots Q (F0 m pc ls (.int v :: .int y :: .ref (ad k) :: rest)) := by
  have hset := aW_set (ids := ids) (ad := ad) (σ := σ) (σ' := wI σ k (ix y) v) hk (by rw [ce_I, wI_at]) (fun a h => wI_off h) (fun a h => rfl) (fun a h => rfl)
  exact va_iast hx hb hK hW hD hS k 0 (aW_get hk) rfl (inb_in hg) hd (fun H1 locs1 hW1 hD1 hS1 => kk H1 locs1 (by rw [← hset]; exact hW1) (by rw [← hset]; exact hD1) hS1)
def sM0 : Sg := (fun a => if a = 0 then (fun j => if j = 5 ∨ j = 6 then -1 else if j = 24 then 1 else 0) else fun _ => 0, fun _ _ => 0, fun _ _ => none)
def sM1 : Sg := wI (wI sM0 1 8 163) 1 2 (-1)
def sM9 : Sg := wC sM1 1 0 2 0 1986
theorem aW_at {ids : Ids} {ad : Nat → Nat} {κ : Kd} {σ : Sg} {k : Nat} : (aW ids ad κ σ)[k]? = (κ[k]?).map (fun q => (ad k, ce ids ad σ k q)) := by
  unfold aW
  rw [List.getElem?_mapIdx]
def mI (g : Nat → FK → Value) : Nat → List FK → List Value
  | _, [] => []
  | n, f :: l => g n f :: mI g (n + 1) l
theorem mI_get (g : Nat → FK → Value) : ∀ (l : List FK) (n i : Nat), (mI g n l)[i]? = (l[i]?).map (fun f => g (n + i) f)
  | [], _, _ => rfl
  | f :: l, n, 0 => rfl
  | f :: l, n, i + 1 => by
    show (mI g (n + 1) l)[i]? = (l[i]?).map (fun f => g (n + (i + 1)) f)
    rw [mI_get g l (n + 1) i, show n + 1 + i = n + (i + 1) by omega]
theorem mapIdx_mI (g : Nat → FK → Value) (l : List FK) : l.mapIdx g = mI g 0 l := by
  apply List.ext_getElem?
  intro i
  rw [List.getElem?_mapIdx, mI_get, Nat.zero_add]
theorem ce_mI {ids : Ids} {ad : Nat → Nat} {σ : Sg} {k c n : Nat} (h : c < 13) : ce ids ad σ k (c, n) = .inr (c, mI (fun j f => fv ad σ k j f) 0 (flds c)) := by
  rw [ce_obj h, mapIdx_mI]
def bw12 (ids : Ids) (a : Nat → Nat) : va_W := [(a 0, .inr (12, [.ref (a 1), .ref (a 2), .ref (a 3), .ref (a 4), .int 0, .int (-1), .int (-1), .int 0, .int 0, .int 0, .int 0, .long 0, .int 0, .int 0, .int 0, .ref (a 5), .int 0, .int 0, .int 0, .int 0, .ref (a 6), .ref (a 7), .ref (a 8), .int 0, .int 1, .int 0, .ref (a 9), .ref (a 10), .ref (a 11), .ref (a 12), .ref (a 13), .ref (a 14)])), (a 1, .inl (ids.1, 1986, .inl (fun _ => 0))), (a 2, .inl (ids.1, 1986, .inl (fun _ => 0))), (a 3, .inl (ids.1, 2820, .inl (fun _ => 0))), (a 4, .inl (ids.1, 300, .inl (fun _ => 0))), (a 5, .inl (ids.1, 160, .inl (fun _ => 0))), (a 6, .inl (ids.1, 9, .inl (fun _ => 0))), (a 7, .inl (ids.2.1, 330, .inr (.inl (fun _ => 0)))), (a 8, .inl (ids.2.2.1, 330, .inl (fun _ => 0))), (a 9, .inl (ids.1, 50, .inl (fun _ => 0))), (a 10, .inl (ids.1, 64, .inl (fun _ => 0))), (a 11, .inl (ids.1, 256, .inl (fun _ => 0))), (a 12, .inl (ids.1, 8, .inl (fun _ => 0))), (a 13, .inl (ids.1, 64, .inl (fun _ => 0))), (a 14, .inl (ids.2.2.1, 120, .inl (fun _ => 0)))]
set_option maxRecDepth 100000 in
set_option maxHeartbeats 4000000 in
theorem bw12_aW {ids : Ids} {a : Nat → Nat} : bw12 ids a = aW ids a κM sM0 := by
  apply List.ext_getElem?
  intro k
  rw [aW_at]
  by_cases hk : k < 15
  · match k, hk with
    | 0, _ =>
      show some ((a 0, Sum.inr (12, _)) : Nat × va_E) = some (a 0, ce ids a sM0 0 (12, 0))
      rw [ce_mI (by decide)]
      rfl
    | 1, _ => rfl
    | 2, _ => rfl
    | 3, _ => rfl
    | 4, _ => rfl
    | 5, _ => rfl
    | 6, _ => rfl
    | 7, _ => rfl
    | 8, _ => rfl
    | 9, _ => rfl
    | 10, _ => rfl
    | 11, _ => rfl
    | 12, _ => rfl
    | 13, _ => rfl
    | 14, _ => rfl
    | k + 15, h => omega
  · have e1 : (bw12 ids a)[k]? = none := List.getElem?_eq_none (by show 15 ≤ k; omega)
    have e2 : κM[k]? = none := List.getElem?_eq_none (by show 15 ≤ k; omega)
    rw [e1, e2]
    rfl
theorem put12F {p : Program} {l : Launch} {e : Env} {R : Room} {s : State} {m : MethodId} {args : Array Value} {below : List Frame} {meth : Method} {c : Code} {H : Heap} {locs : List Loc} {cells slots : Nat} {Q : State → Prop} {cc : ByteArray} {ls : Array Slot} {w0 : Cond} {pc idx k a : Nat} {D : va_G} {ids : Ids} {A : Nat → Prop} {ws : va_W} {fs : List Value} {v : Value} {ty : FieldType} {rest : List Value} {nm ds : String} (hx : p.tables.exec = Jvm.exec) (hb : c.code = cc) (hts : ∀ w ∈ w0 :: WS, w.before args s = true) (hown : s.vm.findClass RX12 = some m.cls) (hK : va_K D acl (atys ids) s) (hP : va_P D acl ws H) (hD : va_D A ws) (hS : va_S A s.heap H locs) (he : ws[0]? = some (a, .inr (12, fs))) (hk : k < 32) (ht : TX12 k = (RX12, nm, ds, true)) (hl : Cond.fieldLink RX12 idx RX12 nm ds ∈ WS) (hin : meth.name = "<init>") (hd : parseFieldDescriptor ds = some ty) (hn : narrow ty v = v) (hfit : fits ty v = true) (hlen : k < fs.length) (hdg : decode cc pc = .ok (.putfield idx, 3)) (kk : ∀ (H1 : Heap) (locs1 : List Loc), va_P D acl (ws.set 0 (a, .inr (12, fs.set k v))) H1 → va_D A (ws.set 0 (a, .inr (12, fs.set k v))) → va_S A s.heap H1 locs1 → W p l e R s m args below meth c H1 locs1 cells slots Q (F0 m (pc + 3) ls rest)) : W p l e R s m args below meth c H locs cells slots Q (F0 m pc ls (v :: .ref a :: rest)) :=
  va_putF (D := D) (ci := 12) (ref := RX12) (C := RX12) (T := TX12) (N := 32) hx hb hts (fun w hw => List.mem_cons_of_mem _ (uws_12 w hw)) tyX12 tyX12_ok nmX12 hown hK hP hD hS 0 he rfl k hk (by rw [ht]; exact hts _ (List.mem_cons_of_mem _ hl)) (by rw [ht]; exact fun _ h9 => h9) (by rw [ht]) hin (by rw [ht]) (by rw [ht]; exact hd) hn hfit hlen hdg kk
theorem put12 {p : Program} {l : Launch} {e : Env} {R : Room} {s : State} {m : MethodId} {args : Array Value} {below : List Frame} {meth : Method} {c : Code} {H : Heap} {locs : List Loc} {cells slots : Nat} {Q : State → Prop} {cc : ByteArray} {ls : Array Slot} {w0 : Cond} {pc idx k a : Nat} {D : va_G} {ids : Ids} {A : Nat → Prop} {ws : va_W} {fs : List Value} {v : Value} {ty : FieldType} {rest : List Value} {nm ds : String} (hx : p.tables.exec = Jvm.exec) (hb : c.code = cc) (hts : ∀ w ∈ w0 :: WS, w.before args s = true) (hown : s.vm.findClass RX12 = some m.cls) (hK : va_K D acl (atys ids) s) (hP : va_P D acl ws H) (hD : va_D A ws) (hS : va_S A s.heap H locs) (he : ws[0]? = some (a, .inr (12, fs))) (hk : k < 32) (ht : TX12 k = (RX12, nm, ds, false)) (hl : Cond.fieldLink RX12 idx RX12 nm ds ∈ WS) (hd : parseFieldDescriptor ds = some ty) (hn : narrow ty v = v) (hfit : fits ty v = true) (hlen : k < fs.length) (hdg : decode cc pc = .ok (.putfield idx, 3)) (kk : ∀ (H1 : Heap) (locs1 : List Loc), va_P D acl (ws.set 0 (a, .inr (12, fs.set k v))) H1 → va_D A (ws.set 0 (a, .inr (12, fs.set k v))) → va_S A s.heap H1 locs1 → W p l e R s m args below meth c H1 locs1 cells slots Q (F0 m (pc + 3) ls rest)) : W p l e R s m args below meth c H locs cells slots Q (F0 m pc ls (v :: .ref a :: rest)) :=
  va_put (D := D) (ci := 12) (ref := RX12) (C := RX12) (T := TX12) (N := 32) hx hb hts (fun w hw => List.mem_cons_of_mem _ (uws_12 w hw)) tyX12 tyX12_ok nmX12 hown hK hP hD hS 0 he rfl k hk (by rw [ht]; exact hts _ (List.mem_cons_of_mem _ hl)) (by rw [ht]; exact fun _ h9 => h9) (by rw [ht]) (by rw [ht]; exact hd) hn hfit hlen hdg kk
