/-! contracts and calls -/
def AMet (κ : Kd) (P : AP) (d : Nat) (args : List AV) (σ : Sg) (out : Out) : Prop :=
  Reg κ → okσ κ σ → (∀ v ∈ args, okv κ v) → okOut κ out ∧ ∀ (l : Launch) (D : va_G) (ids : Ids) (ad : Nat → Nat) (sz : Nat),
    Met l P.1 (ccd P :: WS) (rmA d) (va_Pc (args.map (cv ad)) (fun U => U.heap.size = sz ∧ va_P D acl (aW ids ad κ σ) U.heap ∧ va_K D acl (atys ids) U ∧ va_D (fun _ => True) (aW ids ad κ σ) ∧ XK ad (va_A (aW ids ad κ σ) sz) U U.heap)) (aQ ids D ad κ (va_A (aW ids ad κ σ) sz) out) 0 0 (va_A (aW ids ad κ σ) sz)
def isL (v : AV) : Bool := match v with
  | .inr (.inl _) => true
  | _ => false
theorem isL_aT (r : Option Nat) : isL (aT r) = false := by cases r <;> rfl
theorem isL_cat (ad : Nat → Nat) (v : AV) : (cv ad v).category = if isL v = true then 2 else 1 := by
  rcases v with x | x | _ | x <;> rfl
def entK : List (Bool × AV) → List (Option AV)
  | [] => []
  | (true, v) :: r => some v :: none :: entK r
  | (false, v) :: r => some v :: entK r
theorem entK_args (ad : Nat → Nat) : ∀ (ks : List (Bool × AV)) (b : Nat), (∀ q ∈ ks, isL q.2 = q.1) → ∀ (i : Nat) (v : AV), (entK ks)[i]? = some (some v) → (b + i, cv ad v) ∈ lv_args b ((ks.map (·.2)).map (cv ad))
  | [], b, _, i, v, h => by simp [entK] at h
  | (true, w) :: r, b, hk, i, v, h => by
    have e0 := hk (true, w) List.mem_cons_self
    have ih := entK_args ad r (b + 2) (fun q hq => hk q (List.mem_cons_of_mem _ hq))
    simp only [List.map_cons, lv_args]
    have ec : (cv ad w).category = 2 := by rw [isL_cat, e0]; rfl
    rw [if_pos ec]
    match i, h with
    | 0, h =>
      simp [entK] at h
      subst h
      exact List.mem_cons_self
    | 1, h => simp [entK] at h
    | i + 2, h =>
      have := ih i v (by simpa [entK] using h)
      rw [show b + (i + 2) = b + 2 + i by omega]
      exact List.mem_cons_of_mem _ this
  | (false, w) :: r, b, hk, i, v, h => by
    have e0 := hk (false, w) List.mem_cons_self
    have ih := entK_args ad r (b + 1) (fun q hq => hk q (List.mem_cons_of_mem _ hq))
    simp only [List.map_cons, lv_args]
    have ec : ¬ (cv ad w).category = 2 := by rw [isL_cat, e0]; simp
    rw [if_neg ec]
    match i, h with
    | 0, h =>
      simp [entK] at h
      subst h
      exact List.mem_cons_self
    | i + 1, h =>
      have := ih i v (by simpa [entK] using h)
      rw [show b + (i + 1) = b + 1 + i by omega]
      exact List.mem_cons_of_mem _ this
theorem entK_len (ad : Nat → Nat) : ∀ (ks : List (Bool × AV)), (∀ q ∈ ks, isL q.2 = q.1) → (lg_sl ((ks.map (·.2)).map (cv ad))).length = (entK ks).length
  | [], _ => rfl
  | (true, w) :: r, hk => by
    have e0 := hk (true, w) List.mem_cons_self
    have ih := entK_len ad r (fun q hq => hk q (List.mem_cons_of_mem _ hq))
    have ec : (cv ad w).category = 2 := by rw [isL_cat, e0]; rfl
    unfold lg_sl at ih ⊢
    simp only [List.map_cons, List.flatMap_cons, if_pos ec, List.length_append, entK, ih]
    simp
    omega
  | (false, w) :: r, hk => by
    have e0 := hk (false, w) List.mem_cons_self
    have ih := entK_len ad r (fun q hq => hk q (List.mem_cons_of_mem _ hq))
    have ec : ¬ (cv ad w).category = 2 := by rw [isL_cat, e0]; simp
    unfold lg_sl at ih ⊢
    simp only [List.map_cons, List.flatMap_cons, if_neg ec, List.length_append, entK, ih]
    simp
    omega
theorem amet_of {κ : Kd} {P : AP} {d : Nat} {σ : Sg} {out : Out} (hP : POK P) (ks : List (Bool × AV)) (hk : ∀ q ∈ ks, isL q.2 = q.1) (n : Nat) (hn : (entK ks).length + n = P.2.2.1)
    (k : AW κ P d out 0 (entK ks ++ List.replicate n none) [] σ) : AMet κ P d (ks.map (·.2)) σ out := by
  intro hR h1 h2
  have hL : ∀ v, some v ∈ entK ks ++ List.replicate n none → okv κ v := by
    intro v hv
    rcases List.mem_append.mp hv with hv | hv
    · obtain ⟨i, hi⟩ := List.mem_iff_getElem?.mp hv
      have hm := entK_args (fun k => k) ks 0 hk i v hi
      have : ∀ (l : List AV) (b : Nat), (∀ w ∈ l, okv κ w) → ∀ (ks : List (Bool × AV)), ks.map (·.2) = l → some v ∈ entK ks → okv κ v := by
        intro l b hl ks hks hm
        induction ks generalizing l with
        | nil => simp [entK] at hm
        | cons q r ih =>
          obtain ⟨bq, w⟩ := q
          subst hks
          cases bq <;> simp [entK] at hm
          · rcases hm with rfl | hm
            · exact hl _ (by simp)
            · exact ih _ (fun w hw => hl w (List.mem_cons_of_mem _ hw)) rfl hm
          · rcases hm with rfl | hm
            · exact hl _ (by simp)
            · exact ih _ (fun w hw => hl w (List.mem_cons_of_mem _ hw)) rfl hm
      exact this _ 0 h2 ks rfl hv
    · have := List.eq_of_mem_replicate hv
      cases this
  obtain ⟨a, b⟩ := k hP hR h1 hL (fun v hv => by cases hv)
  refine ⟨a, fun l D ids ad sz => ?_⟩
  refine Met.ofW (cc := P.2.1) (maxL := P.2.2.1) (ret := P.2.2.2.1) hP.2.1 rfl ?_
  intro p e s m args below meth c s₁ B hml hv
  obtain ⟨hav, hsz, hW, hK, hD0, hX0⟩ := hv
  subst hav
  subst hsz
  have hts := atoms_spec (ws := ccd P :: WS) B.pre
  have hown : s.vm.findClass P.1.cls = some m.cls := findClass_of_methodNamed B.named
  have hlen := entK_len ad ks hk
  have hent := lv_entry ((ks.map (·.2)).map (cv ad)) (n := P.2.2.1) (by omega)
  rw [lg_entry_eq]
  exact b l p e s m _ below meth c D ids ad _ s.heap [] _ ⟨B.exec, B.bytes, B.returns, hml, hown, hts, B.notSynchronized, hK, fun q h => Or.inr h, hX0⟩ hW (hD0.self (sz := s.heap.size)) va_S.rf
    ⟨hent.1, by simp; omega, hent.2.1, fun i v hi => by
      by_cases hlt : i < (entK ks).length
      · rw [List.getElem?_append_left hlt] at hi
        have := entK_args ad ks 0 hk i v hi
        rw [Nat.zero_add] at this
        exact hent.2.2 (i, cv ad v) this
      · rw [List.getElem?_append_right (by omega)] at hi
        have := List.eq_of_mem_replicate (List.mem_of_getElem? hi)
        cases this⟩
theorem ws_good : ∀ w ∈ WS, goodWord w = true := fun w hw => (List.mem_filter.mp hw).2
theorem goodIn_ws {P P' : AP} (hP' : POK P') : GoodIn (ccd P :: WS) (ccd P' :: WS) := by
  intro w hw
  rcases List.mem_cons.mp hw with rfl | hw
  · exact ⟨List.mem_cons_of_mem _ hP'.1, good_of_word (ws_good _ hP'.1)⟩
  · exact ⟨List.mem_cons_of_mem _ hw, good_of_word (ws_good _ hw)⟩
/-- what the tables say of a callee -/
def VOK (P : AP) : Prop := Cond.instanceMethod P.1 ∈ WS ∧ Cond.selects P.1.cls P.1 P.1 ∈ WS ∧ Cond.initialized P.1.cls ∈ WS ∧ P.1.cls ≠ "java/lang/invoke/MethodHandle" ∧ P.1.cls ≠ "java/lang/invoke/VarHandle"
def TOK (P : AP) : Prop := Cond.static P.1 ∈ WS ∧ Cond.initialized P.1.cls ∈ WS ∧ P.1.cls ≠ "java/lang/invoke/MethodHandle" ∧ P.1.cls ≠ "java/lang/invoke/VarHandle"
def nargs (P : AP) (n : Nat) : Prop := (parseMethodDescriptor P.1.desc).map (fun d => d.parameters.length) = some n
def room2 (P : AP) (d' d : Nat) : Bool := Nat.ble (d' + 1) d && Nat.ble P.2.2.1 21
theorem room2_of {P : AP} {d' d : Nat} (h : room2 P d' d = true) : (rmA d').frames + 1 ≤ (rmA d).frames ∧ 8 + (P.2.2.1 + 11) + (rmA d').locals ≤ (rmA d).locals := by
  unfold room2 at h
  rw [Bool.and_eq_true] at h
  have h1 := Nat.le_of_ble_eq_true h.1
  have h2 := Nat.le_of_ble_eq_true h.2
  exact ⟨h1, by show 8 + (P.2.2.1 + 11) + 40 * d' ≤ 40 * d; omega⟩
section CALLS
variable {κ : Kd} {P : AP} {d pc : Nat} {out : Out} {L : List (Option AV)} {stk : List AV} {σ : Sg}
theorem am_call {l : Launch} {p : Program} {e : Env} {R : Room} {s : State} {m : MethodId} {args : Array Value} {below : List Frame} {meth : Method} {c : Code} {H : Heap} {locs : List Loc} {ls : Array Slot} {st0 rest : List Value} {a : Array Value} {D : va_G} {ids : Ids} {ad : Nat → Nat} {A0 A1 : Nat → Prop} {H0 : Heap} {ov : Option AV} {σ' : Sg} {Q : State → Prop}
    (hr : va_Run p l e R s m args below meth c H locs 0 0 0 0 (F0 m pc ls st0) rest (aQ ids D ad κ A1 (ov, σ') a) A1) (hS : va_S A0 H0 H locs) (hA : ∀ q, A1 q → A0 q)
    (kk : ∀ (H1 : Heap) (locs1 : List Loc), va_P D acl (aW ids ad κ σ') H1 → va_S A0 H0 H1 locs1 → W p l e R s m args below meth c H1 locs1 0 0 Q (F0 m (pc + 3) ls ((ov.map (cv ad)).toList ++ rest))) : W p l e R s m args below meth c H locs 0 0 Q (F0 m pc ls st0) := by
  intro T hT X
  obtain ⟨v, st₀, t, T', L, h0, X', hL, e1, e2, ⟨⟨hv, hp, hkk⟩, hz, hk⟩, st⟩ := hr T hT X
  cases hv
  rw [h0] at hz hk
  obtain ⟨t2, a1, b1⟩ := kk T'.heap (locs ++ L) (by rw [e1]; exact hp)
    ⟨Nat.le_trans hS.1 (by rw [e1]; exact hz), fun q h1 h2 => by rw [e1, hk q (Nat.lt_of_lt_of_le h1 hS.1) (fun z => h2 (hA q z))]; exact hS.2.1 q h1 h2, fun q hq => by
      rcases List.mem_append.mp hq with h | h
      · exact hS.2.2 q h
      · exact hA _ (hL q h)⟩ T' rfl X'
  exact ⟨t2, st t2 a1, b1⟩
theorem aW_addr {ids : Ids} {ad : Nat → Nat} {σ σ' : Sg} {k : Nat} {q : Nat × va_E} (h : (aW ids ad κ σ')[k]? = some q) : ∃ e, (aW ids ad κ σ)[k]? = some (q.1, e) := by
  unfold aW at h ⊢
  rw [List.getElem?_mapIdx] at h ⊢
  cases hk : κ[k]? with
  | none => rw [hk] at h; simp at h
  | some z =>
    rw [hk] at h
    simp only [Option.map_some, Option.some.injEq] at h
    subst h
    exact ⟨_, rfl⟩
theorem aW_D {A : Nat → Prop} {ids : Ids} {ad : Nat → Nat} {σ σ' : Sg} (h : va_D A (aW ids ad κ σ)) : va_D A (aW ids ad κ σ') := by
  refine ⟨fun i j p q hi hj e => ?_, fun k q hk => ?_⟩
  · obtain ⟨e1, h1⟩ := aW_addr (σ := σ) hi
    obtain ⟨e2, h2⟩ := aW_addr (σ := σ) hj
    exact h.1 i j _ _ h1 h2 e
  · obtain ⟨e1, h1⟩ := aW_addr (σ := σ) hk
    exact h.2 k (q.1, e1) h1
theorem aW_free {A : Nat → Prop} {ids : Ids} {ad : Nat → Nat} {σ : Sg} {H0 H : Heap} {locs : List Loc} (hD : va_D A (aW ids ad κ σ)) (hS : va_S A H0 H locs) (hA : ∀ q, H0.size ≤ q → A q) : ∀ q, va_A (aW ids ad κ σ) H.size q → A q := by
  intro q h
  rcases h with ⟨k, e, h⟩ | h
  · exact hD.2 k _ h
  · exact hA q (Nat.le_trans hS.1 h)
theorem stk_map {ad : Nat → Nat} {ov : Option AV} {rest : List AV} : (ov.toList ++ rest).map (cv ad) = (ov.map (cv ad)).toList ++ rest.map (cv ad) := by
  cases ov <;> rfl
theorem rest8 {ad : Nat → Nat} {rest : List AV} (h : (rest.map (fun v => if isL v = true then 2 else 1)).sum ≤ 8) : ((rest.map (cv ad)).map fun v => v.category).sum ≤ 8 := by
  rw [List.map_map]
  have : ((fun v => v.category) ∘ cv ad) = (fun v => if isL v = true then 2 else 1) := by
    funext v
    exact isL_cat ad v
  rw [this]
  exact h
theorem aw_callV {P' : AP} {idx d' c n k : Nat} (As rest : List AV) {ov : Option AV} {σ' : Sg} (hP' : POK P') (hd : decode P.2.1 pc = .ok (.invokevirtual idx, 3)) (hl : Cond.methodLink P.1.cls idx P'.1 ∈ WS) (hv : VOK P') (hc : c < 13) (hcn : (cN c).1 = P'.1.cls) (hn : nargs P' As.length) (hr : room2 P' d' d = true)
    (hs : stk = As.reverse ++ aR c n k :: rest) (h8 : (rest.map (fun v => if isL v = true then 2 else 1)).sum ≤ 8) (hM : AMet κ P' d' (aR c n k :: As) σ (ov, σ')) (kk : AW κ P d out (pc + 3) L (ov.toList ++ rest) σ') : AW κ P d out pc L stk σ := by
  subst hs
  refine aw_step (fun hP hR ok => ?_) kk
  have hargs : ∀ v ∈ aR c n k :: As, okv κ v := by
    intro v hv
    rcases List.mem_cons.mp hv with rfl | hv
    · exact ok.2.2 _ (List.mem_append_right _ List.mem_cons_self)
    · exact ok.2.2 v (List.mem_append_left _ (List.mem_reverse.mpr hv))
  obtain ⟨hO, hMM⟩ := hM hR ok.1 hargs
  refine ⟨fun l p e s m args below meth c0 D ids ad A H locs ls Q F hW hD hS hl0 kk => ?_, hO.1, ok.2.1, fun v hv => ?_⟩
  · obtain ⟨hx, hb, hrr, hml, hown, hts, hlk, hK, hA⟩ := F
    have hk : κ[k]? = some (c, n) := okv_at (hargs _ List.mem_cons_self) (by omega)
    have hF := aW_free hD hS hA.1
    have hrm := room2_of hr
    have hrun := va_runV (p := p) (l := l) (e := e) (R := rmA d) (s := s) (m := m) (args := args) (below := below) (meth := meth) (c := c0) (H := H) (locs := locs) (cells := 0) (slots := 0) (g := F0 m pc ls ((As.reverse ++ aR c n k :: rest).map (cv ad))) (As := As.map (cv ad)) (b := ad k) (rest := rest.map (cv ad)) (C := P'.1.cls) (n := As.length)
      ⟨hx, hb, hml, hown, hts⟩ (hMM l D ids ad H.size)
      ⟨callB_of As.length hts (goodIn_ws hP') rfl rfl rfl (hts _ (List.mem_cons_of_mem _ hv.2.2.1)) (hts _ (List.mem_cons_of_mem _ hl)) ⟨hv.2.2.2.1, hv.2.2.2.2, hn⟩ hrm, hts _ (List.mem_cons_of_mem _ hv.1), hts _ (List.mem_cons_of_mem _ hv.2.1)⟩
      ⟨fun a U g mk q => by obtain ⟨q0, q1, qP, qK, qD, qX⟩ := q; exact ⟨q0, q1, qP, va_K.moved (u := U) (U := U.calling g mk a) (Vm.Alike.refl U.vm) qK, qD, XK.same (U := U.calling g mk a) qX rfl⟩,
        by rw [← hcn]; exact va_recv hK hW (acl_cN hc) ((aW_get hk).trans (by rw [ce_obj hc])),
        fun U hU hWm => ⟨rfl, by rw [hU], by rw [hU]; exact hW, va_K.moved hWm.alike hK, hD.weaken (fun _ _ _ _ => trivial), hA.2.call hS hF hU hWm⟩⟩
      rfl (by simp) hl0.1 (by simp [cv]) (lv_room (rest8 h8)) hd ⟨Nat.le_refl _, Nat.le_refl _⟩
    refine am_call hrun hS hF (fun H1 locs1 w1 w2 => ?_)
    rw [← stk_map]
    exact kk H1 locs1 ls w1 (aW_D hD) w2 hl0
  · rcases List.mem_append.mp hv with hv | hv
    · exact hO.2 v (by cases ov with | none => cases hv | some w => simp at hv; rw [hv])
    · exact ok.2.2 v (List.mem_append_right _ (List.mem_cons_of_mem _ hv))
theorem aw_callVS {P' : AP} {idx d' n k : Nat} (As rest : List AV) {ov : Option AV} {σ' : Sg} (hP' : POK P') (hd : decode P.2.1 pc = .ok (.invokevirtual idx, 3)) (hl : Cond.methodLink P.1.cls idx P'.1 ∈ WS) (hv : VOK P') (hcn : "java/lang/String" = P'.1.cls) (hn : nargs P' As.length) (hr : room2 P' d' d = true)
    (hs : stk = As.reverse ++ aR 20 n k :: rest) (h8 : (rest.map (fun v => if isL v = true then 2 else 1)).sum ≤ 8) (hM : AMet κ P' d' (aR 20 n k :: As) σ (ov, σ')) (kk : AW κ P d out (pc + 3) L (ov.toList ++ rest) σ') : AW κ P d out pc L stk σ := by
  subst hs
  refine aw_step (fun hP hR ok => ?_) kk
  have hargs : ∀ v ∈ aR 20 n k :: As, okv κ v := by
    intro v hv
    rcases List.mem_cons.mp hv with rfl | hv
    · exact ok.2.2 _ (List.mem_append_right _ List.mem_cons_self)
    · exact ok.2.2 v (List.mem_append_left _ (List.mem_reverse.mpr hv))
  obtain ⟨hO, hMM⟩ := hM hR ok.1 hargs
  refine ⟨fun l p e s m args below meth c0 D ids ad A H locs ls Q F hW hD hS hl0 kk => ?_, hO.1, ok.2.1, fun v hv => ?_⟩
  · obtain ⟨hx, hb, hrr, hml, hown, hts, hlk, hK, hA⟩ := F
    obtain ⟨hn6, hkk⟩ := okv_str (hargs _ List.mem_cons_self) (by decide)
    have hkk : k = SB + n := hkk
    subst hkk
    have hF := aW_free hD hS hA.1
    have hrm := room2_of hr
    have hrun := va_runV (p := p) (l := l) (e := e) (R := rmA d) (s := s) (m := m) (args := args) (below := below) (meth := meth) (c := c0) (H := H) (locs := locs) (cells := 0) (slots := 0) (g := F0 m pc ls ((As.reverse ++ aR 20 n (SB + n) :: rest).map (cv ad))) (As := As.map (cv ad)) (b := ad (SB + n)) (rest := rest.map (cv ad)) (C := P'.1.cls) (n := As.length)
      ⟨hx, hb, hml, hown, hts⟩ (hMM l D ids ad H.size)
      ⟨callB_of As.length hts (goodIn_ws hP') rfl rfl rfl (hts _ (List.mem_cons_of_mem _ hv.2.2.1)) (hts _ (List.mem_cons_of_mem _ hl)) ⟨hv.2.2.2.1, hv.2.2.2.2, hn⟩ hrm, hts _ (List.mem_cons_of_mem _ hv.1), hts _ (List.mem_cons_of_mem _ hv.2.1)⟩
      ⟨fun a U g mk q => by obtain ⟨q0, q1, qP, qK, qD, qX⟩ := q; exact ⟨q0, q1, qP, va_K.moved (u := U) (U := U.calling g mk a) (Vm.Alike.refl U.vm) qK, qD, XK.same (U := U.calling g mk a) qX rfl⟩,
        by rw [← hcn]; exact vk_recv (i := n) hA.2.2.1 hn6 hS,
        fun U hU hWm => ⟨rfl, by rw [hU], by rw [hU]; exact hW, va_K.moved hWm.alike hK, hD.weaken (fun _ _ _ _ => trivial), hA.2.call hS hF hU hWm⟩⟩
      rfl (by simp) hl0.1 (by simp [cv]) (lv_room (rest8 h8)) hd ⟨Nat.le_refl _, Nat.le_refl _⟩
    refine am_call hrun hS hF (fun H1 locs1 w1 w2 => ?_)
    rw [← stk_map]
    exact kk H1 locs1 ls w1 (aW_D hD) w2 hl0
  · rcases List.mem_append.mp hv with hv | hv
    · exact hO.2 v (by cases ov with | none => cases hv | some w => simp at hv; rw [hv])
    · exact ok.2.2 v (List.mem_append_right _ (List.mem_cons_of_mem _ hv))
theorem aw_callS {P' : AP} {idx d' : Nat} (As rest : List AV) {ov : Option AV} {σ' : Sg} (hP' : POK P') (hd : decode P.2.1 pc = .ok (.invokestatic idx, 3)) (hl : Cond.methodLink P.1.cls idx P'.1 ∈ WS) (hv : TOK P') (hn : nargs P' As.length) (hr : room2 P' d' d = true)
    (hs : stk = As.reverse ++ rest) (h8 : (rest.map (fun v => if isL v = true then 2 else 1)).sum ≤ 8) (hM : AMet κ P' d' As σ (ov, σ')) (kk : AW κ P d out (pc + 3) L (ov.toList ++ rest) σ') : AW κ P d out pc L stk σ := by
  subst hs
  refine aw_step (fun hP hR ok => ?_) kk
  have hargs : ∀ v ∈ As, okv κ v := fun v hv => ok.2.2 v (List.mem_append_left _ (List.mem_reverse.mpr hv))
  obtain ⟨hO, hMM⟩ := hM hR ok.1 hargs
  refine ⟨fun l p e s m args below meth c0 D ids ad A H locs ls Q F hW hD hS hl0 kk => ?_, hO.1, ok.2.1, fun v hv => ?_⟩
  · obtain ⟨hx, hb, hrr, hml, hown, hts, hlk, hK, hA⟩ := F
    have hF := aW_free hD hS hA.1
    have hrm := room2_of hr
    have hrun := va_runS (p := p) (l := l) (e := e) (R := rmA d) (s := s) (m := m) (args := args) (below := below) (meth := meth) (c := c0) (H := H) (locs := locs) (cells := 0) (slots := 0) (g := F0 m pc ls ((As.reverse ++ rest).map (cv ad))) (As := As.map (cv ad)) (rest := rest.map (cv ad)) (n := As.length)
      ⟨hx, hb, hml, hown, hts⟩ (hMM l D ids ad H.size)
      ⟨callB_of As.length hts (goodIn_ws hP') rfl rfl rfl (hts _ (List.mem_cons_of_mem _ hv.2.1)) (hts _ (List.mem_cons_of_mem _ hl)) ⟨hv.2.2.1, hv.2.2.2, hn⟩ hrm, hts _ (List.mem_cons_of_mem _ hv.1)⟩
      ⟨fun a U g mk q => by obtain ⟨q0, q1, qP, qK, qD, qX⟩ := q; exact ⟨q0, q1, qP, va_K.moved (u := U) (U := U.calling g mk a) (Vm.Alike.refl U.vm) qK, qD, XK.same (U := U.calling g mk a) qX rfl⟩,
        fun U hU hWm => ⟨rfl, by rw [hU], by rw [hU]; exact hW, va_K.moved hWm.alike hK, hD.weaken (fun _ _ _ _ => trivial), hA.2.call hS hF hU hWm⟩⟩
      rfl (by simp) hl0.1 (by simp) (lv_room (rest8 h8)) hd ⟨Nat.le_refl _, Nat.le_refl _⟩
    refine am_call hrun hS hF (fun H1 locs1 w1 w2 => ?_)
    rw [← stk_map]
    exact kk H1 locs1 ls w1 (aW_D hD) w2 hl0
  · rcases List.mem_append.mp hv with hv | hv
    · exact hO.2 v (by cases ov with | none => cases hv | some w => simp at hv; rw [hv])
    · exact ok.2.2 v (List.mem_append_right _ hv)
theorem aw_callSN {P' : AP} {idx d' : Nat} (As rest : List AV) {ov : Option AV} {σ' : Sg} (hP' : POK P') (hd : decode P.2.1 pc = .ok (.invokestatic idx, 3)) (hl : (P.1.cls, idx, P'.1) ∈ nestW) (hv : TOK P') (hn : nargs P' As.length) (hr : room2 P' d' d = true)
    (hs : stk = As.reverse ++ rest) (h8 : (rest.map (fun v => if isL v = true then 2 else 1)).sum ≤ 8) (hM : AMet κ P' d' As σ (ov, σ')) (kk : AW κ P d out (pc + 3) L (ov.toList ++ rest) σ') : AW κ P d out pc L stk σ := by
  subst hs
  refine aw_step (fun hP hR ok => ?_) kk
  have hargs : ∀ v ∈ As, okv κ v := fun v hv => ok.2.2 v (List.mem_append_left _ (List.mem_reverse.mpr hv))
  obtain ⟨hO, hMM⟩ := hM hR ok.1 hargs
  refine ⟨fun l p e s m args below meth c0 D ids ad A H locs ls Q F hW hD hS hl0 kk => ?_, hO.1, ok.2.1, fun v hv => ?_⟩
  · obtain ⟨hx, hb, hrr, hml, hown, hts, hlk, hK, hA⟩ := F
    have hF := aW_free hD hS hA.1
    have hrm := room2_of hr
    have hrun := va_runSN (host := "CoverFires") (p := p) (l := l) (e := e) (R := rmA d) (s := s) (m := m) (args := args) (below := below) (meth := meth) (c := c0) (H := H) (locs := locs) (cells := 0) (slots := 0) (g := F0 m pc ls ((As.reverse ++ rest).map (cv ad))) (As := As.map (cv ad)) (rest := rest.map (cv ad)) (n := As.length)
      ⟨hx, hb, hml, hown, hts⟩ (hMM l D ids ad H.size)
      ⟨va_cnB As.length hts (goodIn_ws hP') rfl rfl rfl (hA.2.1 _ hl) (hts _ (List.mem_cons_of_mem _ hv.2.1)) ⟨hv.2.2.1, hv.2.2.2, hn⟩ hrm, hts _ (List.mem_cons_of_mem _ hv.1), trivial⟩
      ⟨fun a U g mk q => by obtain ⟨q0, q1, qP, qK, qD, qX⟩ := q; exact ⟨q0, q1, qP, va_K.moved (u := U) (U := U.calling g mk a) (Vm.Alike.refl U.vm) qK, qD, XK.same (U := U.calling g mk a) qX rfl⟩,
        fun U hU hWm => ⟨rfl, by rw [hU], by rw [hU]; exact hW, va_K.moved hWm.alike hK, hD.weaken (fun _ _ _ _ => trivial), hA.2.call hS hF hU hWm⟩⟩
      rfl (by simp) hl0.1 (by simp) (lv_room (rest8 h8)) hd ⟨Nat.le_refl _, Nat.le_refl _⟩
    refine am_call hrun hS hF (fun H1 locs1 w1 w2 => ?_)
    rw [← stk_map]
    exact kk H1 locs1 ls w1 (aW_D hD) w2 hl0
  · rcases List.mem_append.mp hv with hv | hv
    · exact hO.2 v (by cases ov with | none => cases hv | some w => simp at hv; rw [hv])
    · exact ok.2.2 v (List.mem_append_right _ hv)
end CALLS
