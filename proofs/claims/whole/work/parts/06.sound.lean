/-! one step of straight code is sound -/
theorem okc {κ : Kd} {v : AV} {r : List AV} (h1 : okv κ v) (h2 : ∀ w ∈ r, okv κ w) : ∀ w ∈ v :: r, okv κ w := List.forall_mem_cons.mpr ⟨h1, h2⟩
theorem okd {κ : Kd} {v : AV} {r : List AV} (h : ∀ w ∈ v :: r, okv κ w) : okv κ v ∧ ∀ w ∈ r, okv κ w := List.forall_mem_cons.mp h
theorem ldI_inv {n : Nat} {L L' : List (Option AV)} {stk stk' : List AV} {σ σ' : Sg} {g : Bool} (h : ldI n (L, stk, σ) = some (g, L', stk', σ')) : ∃ x, L[n]? = some (some (aI x)) ∧ L' = L ∧ stk' = aI x :: stk ∧ σ' = σ := by
  unfold ldI at h
  split at h
  · rename_i x hx
    cases h
    exact ⟨x, hx, rfl, rfl, rfl⟩
  · cases h
theorem ldL_inv {n : Nat} {L L' : List (Option AV)} {stk stk' : List AV} {σ σ' : Sg} {g : Bool} (h : ldL n (L, stk, σ) = some (g, L', stk', σ')) : ∃ x, L[n]? = some (some (aL x)) ∧ L' = L ∧ stk' = aL x :: stk ∧ σ' = σ := by
  unfold ldL at h
  split at h
  · rename_i x hx
    cases h
    exact ⟨x, hx, rfl, rfl, rfl⟩
  · cases h
theorem ldA_inv {n : Nat} {L L' : List (Option AV)} {stk stk' : List AV} {σ σ' : Sg} {g : Bool} (h : ldA n (L, stk, σ) = some (g, L', stk', σ')) : ∃ x, L[n]? = some (some (.inr (.inr x))) ∧ L' = L ∧ stk' = .inr (.inr x) :: stk ∧ σ' = σ := by
  unfold ldA at h
  split at h
  · rename_i x hx
    cases h
    exact ⟨x, hx, rfl, rfl, rfl⟩
  · cases h
theorem stI_inv {n : Nat} {L L' : List (Option AV)} {stk stk' : List AV} {σ σ' : Sg} {g : Bool} (h : stI n (L, stk, σ) = some (g, L', stk', σ')) : ∃ x r, stk = aI x :: r ∧ n < L.length ∧ L' = (clr1 L n).set n (some (aI x)) ∧ stk' = r ∧ σ' = σ := by
  unfold stI at h
  split at h
  · rename_i x r hx
    split at h
    · rename_i hb
      cases h
      exact ⟨x, _, hx, Nat.blt_eq.mp hb, rfl, rfl, rfl⟩
    · cases h
  · cases h
theorem stL_inv {n : Nat} {L L' : List (Option AV)} {stk stk' : List AV} {σ σ' : Sg} {g : Bool} (h : stL n (L, stk, σ) = some (g, L', stk', σ')) : ∃ x r, stk = aL x :: r ∧ n + 1 < L.length ∧ L' = ((clr1 L n).set n (some (aL x))).set (n + 1) none ∧ stk' = r ∧ σ' = σ := by
  unfold stL at h
  split at h
  · rename_i x r hx
    split at h
    · rename_i hb
      cases h
      exact ⟨x, _, hx, Nat.blt_eq.mp hb, rfl, rfl, rfl⟩
    · cases h
  · cases h
theorem stA_inv {n : Nat} {L L' : List (Option AV)} {stk stk' : List AV} {σ σ' : Sg} {g : Bool} (h : stA n (L, stk, σ) = some (g, L', stk', σ')) : ∃ x r, stk = .inr (.inr x) :: r ∧ n < L.length ∧ L' = (clr1 L n).set n (some (.inr (.inr x))) ∧ stk' = r ∧ σ' = σ := by
  unfold stA at h
  split at h
  · rename_i x r hx
    split at h
    · rename_i hb
      cases h
      exact ⟨x, _, hx, Nat.blt_eq.mp hb, rfl, rfl, rfl⟩
    · cases h
  · cases h
theorem bI_inv {f : Int32 → Int32 → Int32} {L L' : List (Option AV)} {stk stk' : List AV} {σ σ' : Sg} {g : Bool} (h : bI f (L, stk, σ) = some (g, L', stk', σ')) : ∃ y z r, stk = aI y :: aI z :: r ∧ L' = L ∧ stk' = aI (f z y) :: r ∧ σ' = σ := by
  unfold bI at h
  split at h
  · rename_i y z r hx
    cases h
    exact ⟨y, z, r, hx, rfl, rfl, rfl⟩
  · cases h
theorem bL_inv {f : Int64 → Int64 → Int64} {L L' : List (Option AV)} {stk stk' : List AV} {σ σ' : Sg} {g : Bool} (h : bL f (L, stk, σ) = some (g, L', stk', σ')) : ∃ y z r, stk = aL y :: aL z :: r ∧ L' = L ∧ stk' = aL (f z y) :: r ∧ σ' = σ := by
  unfold bL at h
  split at h
  · rename_i y z r hx
    cases h
    exact ⟨y, z, r, hx, rfl, rfl, rfl⟩
  · cases h
theorem dI_inv {f : Int32 → Int32 → Int32} {L L' : List (Option AV)} {stk stk' : List AV} {σ σ' : Sg} {g : Bool} (h : dI f (L, stk, σ) = some (g, L', stk', σ')) : ∃ y z r, stk = aI y :: aI z :: r ∧ g = (!decide (y = 0)) ∧ L' = L ∧ stk' = aI (f z y) :: r ∧ σ' = σ := by
  unfold dI at h
  split at h
  · rename_i y z r hx
    cases h
    exact ⟨y, z, r, hx, rfl, rfl, rfl, rfl⟩
  · cases h
theorem dL_inv {f : Int64 → Int64 → Int64} {L L' : List (Option AV)} {stk stk' : List AV} {σ σ' : Sg} {g : Bool} (h : dL f (L, stk, σ) = some (g, L', stk', σ')) : ∃ y z r, stk = aL y :: aL z :: r ∧ g = (!decide (y = 0)) ∧ L' = L ∧ stk' = aL (f z y) :: r ∧ σ' = σ := by
  unfold dL at h
  split at h
  · rename_i y z r hx
    cases h
    exact ⟨y, z, r, hx, rfl, rfl, rfl, rfl⟩
  · cases h
theorem hL_inv {f : Int64 → Int32 → Int64} {L L' : List (Option AV)} {stk stk' : List AV} {σ σ' : Sg} {g : Bool} (h : hL f (L, stk, σ) = some (g, L', stk', σ')) : ∃ y z r, stk = aI y :: aL z :: r ∧ L' = L ∧ stk' = aL (f z y) :: r ∧ σ' = σ := by
  unfold hL at h
  split at h
  · rename_i y z r hx
    cases h
    exact ⟨y, z, r, hx, rfl, rfl, rfl⟩
  · cases h
theorem fv_gfv {ad : Nat → Nat} {κ : Kd} {σ : Sg} {k j : Nat} {f : FK} : fv ad σ k j f = cv ad (gfv κ σ k j f) := by
  match f with
  | (2, off, code, some n) => rfl
  | (2, off, code, none) => rfl
  | (1, off, code, len) => rfl
  | (0, off, code, len) => rfl
  | (t + 3, off, code, len) =>
    unfold fv
    rw [if_neg (by show ¬ t + 3 = 2; omega), if_neg (by show ¬ t + 3 = 1; omega)]
    rfl
theorem gfv_ok {κ : Kd} {σ : Sg} {k j c n : Nat} {f : FK} (hR : Reg κ) (hk : κ[k]? = some (c, n)) (hc : c < 13) (hf : (flds c)[j]? = some f) : okv κ (gfv κ σ k j f) := by
  obtain ⟨t, off, code, len⟩ := f
  unfold gfv
  split
  · rename_i e
    cases e
    obtain ⟨n', h1, h0, h2⟩ := hR k c n hk hc _ _ _ _ hf
    rw [h2 _ rfl] at h1
    exact okv_of h1 h0
  · rename_i e
    cases e
    obtain ⟨n', h1, h0, h2⟩ := hR k c n hk hc _ _ _ _ hf
    refine okv_of ?_ h0
    unfold lenOf
    rw [h1]
    rfl
  · trivial
  · trivial
theorem fk_fact {c j : Nat} {f : FK} (hc : c < 13) (hj : j < (cN c).2.2) (hf : (flds c)[j]? = some f) (h2 : ¬ f.1 = 2) : tyN c j = fkTy f.1 ∧ ((cN c).2.1 j).2.2.2 = false := by
  have h1 := List.all_eq_true.mp fkOK_all c (List.mem_range.mpr hc)
  unfold fkOK at h1
  have h3 := List.all_eq_true.mp h1 j (List.mem_range.mpr hj)
  rw [hf] at h3
  simp [h2] at h3
  exact ⟨h3.1.2, h3.2⟩
theorem bz_or {x : Int32} (h : bz x = true) : x = 0 ∨ x = 1 := by
  unfold bz at h
  simpa using h
theorem bz_nar {x : Int32} (h : bz x = true) : narrow .boolean (.int x) = .int x ∧ fits .boolean (.int x) = true ∧ vp_nar .boolean x = x := by
  rcases bz_or h with rfl | rfl <;> exact ⟨rfl, rfl, rfl⟩

theorem okσ_wQ {κ : Kd} {σ : Sg} {k i : Nat} {v : Option Nat} (h : okσ κ σ) (hv : ∀ t, v = some t → κ[t]? = some (6, 0)) : okσ κ (wQ σ k i v) := by
  intro a n j t ha hj
  simp only [wQ] at hj
  split at hj
  · exact hv t hj
  · exact h a n j t ha hj
set_option maxHeartbeats 4000000 in
theorem a1_sound {κ : Kd} {P : AP} {d pc n : Nat} {i : Instr} {x : Ax} {L L' : List (Option AV)} {stk stk' : List AV} {σ σ' : Sg} {g : Bool} (h : a1 κ i x (L, stk, σ) = some (g, L', stk', σ')) (hg : g = true) (hc : chk1 P pc i n x = true) (hP : POK P) (hR : Reg κ) (ok : okS κ (L, stk, σ)) :
    StepW κ P d pc L stk σ (pc + n) L' stk' σ' ∧ okS κ (L', stk', σ') := by
  unfold chk1 at hc
  rw [Bool.and_eq_true, Bool.and_eq_true] at hc
  obtain ⟨⟨hd, hn⟩, hx0⟩ := hc
  replace hd := of_decide_eq_true hd
  replace hn := Nat.eq_of_beq_eq_true hn
  subst hn
  cases i
  case aconst_null =>
    cases h
    refine ⟨fun l p e s m args below meth c D ids ad A H locs ls Q F hW hD hS hl kk => ?_, ok.1, ok.2.1, okc trivial ok.2.2⟩
    obtain ⟨hx, hb, hr, hml, hown, hts, hlk, hK, hA⟩ := F
    exact lv_null hx hb hd (kk H locs ls hW hD hS hl)
  case iconst q =>
    cases h
    refine ⟨fun l p e s m args below meth c D ids ad A H locs ls Q F hW hD hS hl kk => ?_, ok.1, ok.2.1, okc trivial ok.2.2⟩
    obtain ⟨hx, hb, hr, hml, hown, hts, hlk, hK, hA⟩ := F
    exact lv_iconst hx hb hd (of_decide_eq_true hx0) (kk H locs ls hW hD hS hl)
  case bipush q =>
    cases h
    refine ⟨fun l p e s m args below meth c D ids ad A H locs ls Q F hW hD hS hl kk => ?_, ok.1, ok.2.1, okc trivial ok.2.2⟩
    obtain ⟨hx, hb, hr, hml, hown, hts, hlk, hK, hA⟩ := F
    exact lv_bipush hx hb hd (of_decide_eq_true hx0) (kk H locs ls hW hD hS hl)
  case sipush q =>
    cases h
    refine ⟨fun l p e s m args below meth c D ids ad A H locs ls Q F hW hD hS hl kk => ?_, ok.1, ok.2.1, okc trivial ok.2.2⟩
    obtain ⟨hx, hb, hr, hml, hown, hts, hlk, hK, hA⟩ := F
    exact lv_sipush hx hb hd (of_decide_eq_true hx0) (kk H locs ls hW hD hS hl)
  case ldc q =>
    cases h
    refine ⟨fun l p e s m args below meth c D ids ad A H locs ls Q F hW hD hS hl kk => ?_, ok.1, ok.2.1, okc trivial ok.2.2⟩
    obtain ⟨hx, hb, hr, hml, hown, hts, hlk, hK, hA⟩ := F
    exact lv_ldc hx hb hown (hts _ (List.mem_cons_of_mem _ (hP.2.2.2.1 _ (of_decide_eq_true hx0)))) hd (kk H locs ls hW hD hS hl)
  case ldc_w q =>
    cases h
    refine ⟨fun l p e s m args below meth c D ids ad A H locs ls Q F hW hD hS hl kk => ?_, ok.1, ok.2.1, okc trivial ok.2.2⟩
    obtain ⟨hx, hb, hr, hml, hown, hts, hlk, hK, hA⟩ := F
    exact lv_ldcw hx hb hown (hts _ (List.mem_cons_of_mem _ (hP.2.2.2.1 _ (of_decide_eq_true hx0)))) hd (kk H locs ls hW hD hS hl)
  case lconst q =>
    cases h
    refine ⟨fun l p e s m args below meth c D ids ad A H locs ls Q F hW hD hS hl kk => ?_, ok.1, ok.2.1, okc trivial ok.2.2⟩
    obtain ⟨hx, hb, hr, hml, hown, hts, hlk, hK, hA⟩ := F
    exact lv_lconst hx hb hd (of_decide_eq_true hx0) (kk H locs ls hW hD hS hl)
  case ldc2_w q =>
    cases h
    refine ⟨fun l p e s m args below meth c D ids ad A H locs ls Q F hW hD hS hl kk => ?_, ok.1, ok.2.1, okc trivial ok.2.2⟩
    obtain ⟨hx, hb, hr, hml, hown, hts, hlk, hK, hA⟩ := F
    exact lv_ldc2 hx hb hown (hts _ (List.mem_cons_of_mem _ (hP.2.2.2.2 _ (of_decide_eq_true hx0)))) hd (kk H locs ls hW hD hS hl)
  case iload_n q =>
    obtain ⟨x, e1, rfl, rfl, rfl⟩ := ldI_inv h
    refine ⟨fun l p e s m args below meth c D ids ad A H locs ls Q F hW hD hS hl kk => ?_, ok.1, ok.2.1, okc trivial ok.2.2⟩
    obtain ⟨hx, hb, hr, hml, hown, hts, hlk, hK, hA⟩ := F
    exact lv_iload_n hx hb hd rfl (hl.get e1) (kk H locs ls hW hD hS hl)
  case lload_n q =>
    obtain ⟨x, e1, rfl, rfl, rfl⟩ := ldL_inv h
    refine ⟨fun l p e s m args below meth c D ids ad A H locs ls Q F hW hD hS hl kk => ?_, ok.1, ok.2.1, okc trivial ok.2.2⟩
    obtain ⟨hx, hb, hr, hml, hown, hts, hlk, hK, hA⟩ := F
    exact lv_lload_n hx hb hd rfl (hl.get e1) (kk H locs ls hW hD hS hl)
  case iload q =>
    obtain ⟨x, e1, rfl, rfl, rfl⟩ := ldI_inv h
    refine ⟨fun l p e s m args below meth c D ids ad A H locs ls Q F hW hD hS hl kk => ?_, ok.1, ok.2.1, okc trivial ok.2.2⟩
    obtain ⟨hx, hb, hr, hml, hown, hts, hlk, hK, hA⟩ := F
    exact lv_iload hx hb hd (hl.get e1) (kk H locs ls hW hD hS hl)
  case lload q =>
    obtain ⟨x, e1, rfl, rfl, rfl⟩ := ldL_inv h
    refine ⟨fun l p e s m args below meth c D ids ad A H locs ls Q F hW hD hS hl kk => ?_, ok.1, ok.2.1, okc trivial ok.2.2⟩
    obtain ⟨hx, hb, hr, hml, hown, hts, hlk, hK, hA⟩ := F
    exact lv_lload hx hb hd (hl.get e1) (kk H locs ls hW hD hS hl)
  case aload_n q =>
    obtain ⟨x, e1, rfl, rfl, rfl⟩ := ldA_inv h
    refine ⟨fun l p e s m args below meth c D ids ad A H locs ls Q F hW hD hS hl kk => ?_, ok.1, ok.2.1, okc (ok.2.1 _ (List.mem_of_getElem? e1)) ok.2.2⟩
    obtain ⟨hx, hb, hr, hml, hown, hts, hlk, hK, hA⟩ := F
    cases x with
    | none => exact lv_aload_nN hx hb hd rfl (hl.get e1) (kk H locs ls hW hD hS hl)
    | some q => exact lv_aload_n hx hb hd rfl (hl.get e1) (kk H locs ls hW hD hS hl)
  case aload q =>
    obtain ⟨x, e1, rfl, rfl, rfl⟩ := ldA_inv h
    refine ⟨fun l p e s m args below meth c D ids ad A H locs ls Q F hW hD hS hl kk => ?_, ok.1, ok.2.1, okc (ok.2.1 _ (List.mem_of_getElem? e1)) ok.2.2⟩
    obtain ⟨hx, hb, hr, hml, hown, hts, hlk, hK, hA⟩ := F
    cases x with
    | none => exact lv_aloadN hx hb hd (hl.get e1) (kk H locs ls hW hD hS hl)
    | some q => exact lv_aload hx hb hd (hl.get e1) (kk H locs ls hW hD hS hl)
  case istore_n q =>
    obtain ⟨x, r, rfl, e1, rfl, rfl, rfl⟩ := stI_inv h
    refine ⟨fun l p e s m args below meth c D ids ad A H locs ls Q F hW hD hS hl kk => ?_, ok.1, okL_set ok.2.1 (okd ok.2.2).1, (okd ok.2.2).2⟩
    obtain ⟨hx, hb, hr, hml, hown, hts, hlk, hK, hA⟩ := F
    exact lv_istore_n hx hb hd rfl hl.has (by rw [← hl.2.1]; exact e1) rfl (fun ls1 h1 => kk H locs ls1 hW hD hS (lrel_st1 hl h1))
  case istore q =>
    obtain ⟨x, r, rfl, e1, rfl, rfl, rfl⟩ := stI_inv h
    refine ⟨fun l p e s m args below meth c D ids ad A H locs ls Q F hW hD hS hl kk => ?_, ok.1, okL_set ok.2.1 (okd ok.2.2).1, (okd ok.2.2).2⟩
    obtain ⟨hx, hb, hr, hml, hown, hts, hlk, hK, hA⟩ := F
    exact lv_istore hx hb hd hl.has (by rw [← hl.2.1]; exact e1) rfl (fun ls1 h1 => kk H locs ls1 hW hD hS (lrel_st1 hl h1))
  case lstore_n q =>
    obtain ⟨x, r, rfl, e1, rfl, rfl, rfl⟩ := stL_inv h
    refine ⟨fun l p e s m args below meth c D ids ad A H locs ls Q F hW hD hS hl kk => ?_, ok.1, okL_none (okL_set ok.2.1 (okd ok.2.2).1), (okd ok.2.2).2⟩
    obtain ⟨hx, hb, hr, hml, hown, hts, hlk, hK, hA⟩ := F
    exact lv_lstore_n hx hb hd rfl hl.has (by rw [← hl.2.1]; exact e1) rfl (fun ls1 h1 => kk H locs ls1 hW hD hS (lrel_st2 hl h1))
  case lstore q =>
    obtain ⟨x, r, rfl, e1, rfl, rfl, rfl⟩ := stL_inv h
    refine ⟨fun l p e s m args below meth c D ids ad A H locs ls Q F hW hD hS hl kk => ?_, ok.1, okL_none (okL_set ok.2.1 (okd ok.2.2).1), (okd ok.2.2).2⟩
    obtain ⟨hx, hb, hr, hml, hown, hts, hlk, hK, hA⟩ := F
    exact lv_lstore hx hb hd hl.has (by rw [← hl.2.1]; exact e1) rfl (fun ls1 h1 => kk H locs ls1 hW hD hS (lrel_st2 hl h1))
  case astore_n q =>
    obtain ⟨x, r, rfl, e1, rfl, rfl, rfl⟩ := stA_inv h
    refine ⟨fun l p e s m args below meth c D ids ad A H locs ls Q F hW hD hS hl kk => ?_, ok.1, okL_set ok.2.1 (okd ok.2.2).1, (okd ok.2.2).2⟩
    obtain ⟨hx, hb, hr, hml, hown, hts, hlk, hK, hA⟩ := F
    cases x with
    | none => exact lv_astore_nN hx hb hd rfl hl.has (by rw [← hl.2.1]; exact e1) rfl (fun ls1 h1 => kk H locs ls1 hW hD hS (lrel_st1 hl h1))
    | some q => exact lv_astore_n hx hb hd rfl hl.has (by rw [← hl.2.1]; exact e1) rfl (fun ls1 h1 => kk H locs ls1 hW hD hS (lrel_st1 hl h1))
  case astore q =>
    obtain ⟨x, r, rfl, e1, rfl, rfl, rfl⟩ := stA_inv h
    refine ⟨fun l p e s m args below meth c D ids ad A H locs ls Q F hW hD hS hl kk => ?_, ok.1, okL_set ok.2.1 (okd ok.2.2).1, (okd ok.2.2).2⟩
    obtain ⟨hx, hb, hr, hml, hown, hts, hlk, hK, hA⟩ := F
    cases x with
    | none => exact lv_astoreN hx hb hd hl.has (by rw [← hl.2.1]; exact e1) rfl (fun ls1 h1 => kk H locs ls1 hW hD hS (lrel_st1 hl h1))
    | some q => exact lv_astore hx hb hd hl.has (by rw [← hl.2.1]; exact e1) rfl (fun ls1 h1 => kk H locs ls1 hW hD hS (lrel_st1 hl h1))
  case iadd =>
    obtain ⟨y, z, r, rfl, rfl, rfl, rfl⟩ := bI_inv h
    refine ⟨fun l p e s m args below meth c D ids ad A H locs ls Q F hW hD hS hl kk => ?_, ok.1, ok.2.1, okc trivial (okd (okd ok.2.2).2).2⟩
    obtain ⟨hx, hb, hr, hml, hown, hts, hlk, hK, hA⟩ := F
    exact lv_iadd hx hb hd (kk H locs ls hW hD hS hl)
  case isub =>
    obtain ⟨y, z, r, rfl, rfl, rfl, rfl⟩ := bI_inv h
    refine ⟨fun l p e s m args below meth c D ids ad A H locs ls Q F hW hD hS hl kk => ?_, ok.1, ok.2.1, okc trivial (okd (okd ok.2.2).2).2⟩
    obtain ⟨hx, hb, hr, hml, hown, hts, hlk, hK, hA⟩ := F
    exact lv_isub hx hb hd (kk H locs ls hW hD hS hl)
  case imul =>
    obtain ⟨y, z, r, rfl, rfl, rfl, rfl⟩ := bI_inv h
    refine ⟨fun l p e s m args below meth c D ids ad A H locs ls Q F hW hD hS hl kk => ?_, ok.1, ok.2.1, okc trivial (okd (okd ok.2.2).2).2⟩
    obtain ⟨hx, hb, hr, hml, hown, hts, hlk, hK, hA⟩ := F
    exact lv_imul hx hb hd (kk H locs ls hW hD hS hl)
  case iand =>
    obtain ⟨y, z, r, rfl, rfl, rfl, rfl⟩ := bI_inv h
    refine ⟨fun l p e s m args below meth c D ids ad A H locs ls Q F hW hD hS hl kk => ?_, ok.1, ok.2.1, okc trivial (okd (okd ok.2.2).2).2⟩
    obtain ⟨hx, hb, hr, hml, hown, hts, hlk, hK, hA⟩ := F
    exact lv_iand hx hb hd (kk H locs ls hW hD hS hl)
  case ior =>
    obtain ⟨y, z, r, rfl, rfl, rfl, rfl⟩ := bI_inv h
    refine ⟨fun l p e s m args below meth c D ids ad A H locs ls Q F hW hD hS hl kk => ?_, ok.1, ok.2.1, okc trivial (okd (okd ok.2.2).2).2⟩
    obtain ⟨hx, hb, hr, hml, hown, hts, hlk, hK, hA⟩ := F
    exact lv_ior hx hb hd (kk H locs ls hW hD hS hl)
  case ixor =>
    obtain ⟨y, z, r, rfl, rfl, rfl, rfl⟩ := bI_inv h
    refine ⟨fun l p e s m args below meth c D ids ad A H locs ls Q F hW hD hS hl kk => ?_, ok.1, ok.2.1, okc trivial (okd (okd ok.2.2).2).2⟩
    obtain ⟨hx, hb, hr, hml, hown, hts, hlk, hK, hA⟩ := F
    exact lv_ixor hx hb hd (kk H locs ls hW hD hS hl)
  case ishl =>
    obtain ⟨y, z, r, rfl, rfl, rfl, rfl⟩ := bI_inv h
    refine ⟨fun l p e s m args below meth c D ids ad A H locs ls Q F hW hD hS hl kk => ?_, ok.1, ok.2.1, okc trivial (okd (okd ok.2.2).2).2⟩
    obtain ⟨hx, hb, hr, hml, hown, hts, hlk, hK, hA⟩ := F
    exact lv_ishl hx hb hd (kk H locs ls hW hD hS hl)
  case ishr =>
    obtain ⟨y, z, r, rfl, rfl, rfl, rfl⟩ := bI_inv h
    refine ⟨fun l p e s m args below meth c D ids ad A H locs ls Q F hW hD hS hl kk => ?_, ok.1, ok.2.1, okc trivial (okd (okd ok.2.2).2).2⟩
    obtain ⟨hx, hb, hr, hml, hown, hts, hlk, hK, hA⟩ := F
    exact lv_ishr hx hb hd (kk H locs ls hW hD hS hl)
  case iushr =>
    obtain ⟨y, z, r, rfl, rfl, rfl, rfl⟩ := bI_inv h
    refine ⟨fun l p e s m args below meth c D ids ad A H locs ls Q F hW hD hS hl kk => ?_, ok.1, ok.2.1, okc trivial (okd (okd ok.2.2).2).2⟩
    obtain ⟨hx, hb, hr, hml, hown, hts, hlk, hK, hA⟩ := F
    exact lv_iushr hx hb hd rfl (kk H locs ls hW hD hS hl)
  case ladd =>
    obtain ⟨y, z, r, rfl, rfl, rfl, rfl⟩ := bL_inv h
    refine ⟨fun l p e s m args below meth c D ids ad A H locs ls Q F hW hD hS hl kk => ?_, ok.1, ok.2.1, okc trivial (okd (okd ok.2.2).2).2⟩
    obtain ⟨hx, hb, hr, hml, hown, hts, hlk, hK, hA⟩ := F
    exact lv_ladd hx hb hd (kk H locs ls hW hD hS hl)
  case lsub =>
    obtain ⟨y, z, r, rfl, rfl, rfl, rfl⟩ := bL_inv h
    refine ⟨fun l p e s m args below meth c D ids ad A H locs ls Q F hW hD hS hl kk => ?_, ok.1, ok.2.1, okc trivial (okd (okd ok.2.2).2).2⟩
    obtain ⟨hx, hb, hr, hml, hown, hts, hlk, hK, hA⟩ := F
    exact lv_lsub hx hb hd (kk H locs ls hW hD hS hl)
  case lmul =>
    obtain ⟨y, z, r, rfl, rfl, rfl, rfl⟩ := bL_inv h
    refine ⟨fun l p e s m args below meth c D ids ad A H locs ls Q F hW hD hS hl kk => ?_, ok.1, ok.2.1, okc trivial (okd (okd ok.2.2).2).2⟩
    obtain ⟨hx, hb, hr, hml, hown, hts, hlk, hK, hA⟩ := F
    exact lv_lmul hx hb hd (kk H locs ls hW hD hS hl)
  case land =>
    obtain ⟨y, z, r, rfl, rfl, rfl, rfl⟩ := bL_inv h
    refine ⟨fun l p e s m args below meth c D ids ad A H locs ls Q F hW hD hS hl kk => ?_, ok.1, ok.2.1, okc trivial (okd (okd ok.2.2).2).2⟩
    obtain ⟨hx, hb, hr, hml, hown, hts, hlk, hK, hA⟩ := F
    exact lv_land hx hb hd (kk H locs ls hW hD hS hl)
  case lor =>
    obtain ⟨y, z, r, rfl, rfl, rfl, rfl⟩ := bL_inv h
    refine ⟨fun l p e s m args below meth c D ids ad A H locs ls Q F hW hD hS hl kk => ?_, ok.1, ok.2.1, okc trivial (okd (okd ok.2.2).2).2⟩
    obtain ⟨hx, hb, hr, hml, hown, hts, hlk, hK, hA⟩ := F
    exact lv_lor hx hb hd (kk H locs ls hW hD hS hl)
  case idiv =>
    obtain ⟨y, z, r, rfl, rfl, rfl, rfl, rfl⟩ := dI_inv h
    refine ⟨fun l p e s m args below meth c D ids ad A H locs ls Q F hW hD hS hl kk => ?_, ok.1, ok.2.1, okc trivial (okd (okd ok.2.2).2).2⟩
    obtain ⟨hx, hb, hr, hml, hown, hts, hlk, hK, hA⟩ := F
    exact lv_idiv hx hb hd (by simpa using hg) (kk H locs ls hW hD hS hl)
  case irem =>
    obtain ⟨y, z, r, rfl, rfl, rfl, rfl, rfl⟩ := dI_inv h
    refine ⟨fun l p e s m args below meth c D ids ad A H locs ls Q F hW hD hS hl kk => ?_, ok.1, ok.2.1, okc trivial (okd (okd ok.2.2).2).2⟩
    obtain ⟨hx, hb, hr, hml, hown, hts, hlk, hK, hA⟩ := F
    exact lv_irem hx hb hd (by simpa using hg) (kk H locs ls hW hD hS hl)
  case ldiv =>
    obtain ⟨y, z, r, rfl, rfl, rfl, rfl, rfl⟩ := dL_inv h
    refine ⟨fun l p e s m args below meth c D ids ad A H locs ls Q F hW hD hS hl kk => ?_, ok.1, ok.2.1, okc trivial (okd (okd ok.2.2).2).2⟩
    obtain ⟨hx, hb, hr, hml, hown, hts, hlk, hK, hA⟩ := F
    exact lv_ldiv hx hb hd (by simpa using hg) (kk H locs ls hW hD hS hl)
  case lrem =>
    obtain ⟨y, z, r, rfl, rfl, rfl, rfl, rfl⟩ := dL_inv h
    refine ⟨fun l p e s m args below meth c D ids ad A H locs ls Q F hW hD hS hl kk => ?_, ok.1, ok.2.1, okc trivial (okd (okd ok.2.2).2).2⟩
    obtain ⟨hx, hb, hr, hml, hown, hts, hlk, hK, hA⟩ := F
    exact lv_lrem hx hb hd (by simpa using hg) (kk H locs ls hW hD hS hl)
  case lshl =>
    obtain ⟨y, z, r, rfl, rfl, rfl, rfl⟩ := hL_inv h
    refine ⟨fun l p e s m args below meth c D ids ad A H locs ls Q F hW hD hS hl kk => ?_, ok.1, ok.2.1, okc trivial (okd (okd ok.2.2).2).2⟩
    obtain ⟨hx, hb, hr, hml, hown, hts, hlk, hK, hA⟩ := F
    exact lv_lshl hx hb hd rfl (kk H locs ls hW hD hS hl)
  case lshr =>
    obtain ⟨y, z, r, rfl, rfl, rfl, rfl⟩ := hL_inv h
    refine ⟨fun l p e s m args below meth c D ids ad A H locs ls Q F hW hD hS hl kk => ?_, ok.1, ok.2.1, okc trivial (okd (okd ok.2.2).2).2⟩
    obtain ⟨hx, hb, hr, hml, hown, hts, hlk, hK, hA⟩ := F
    exact lv_lshr hx hb hd rfl (kk H locs ls hW hD hS hl)
  case lushr =>
    obtain ⟨y, z, r, rfl, rfl, rfl, rfl⟩ := hL_inv h
    refine ⟨fun l p e s m args below meth c D ids ad A H locs ls Q F hW hD hS hl kk => ?_, ok.1, ok.2.1, okc trivial (okd (okd ok.2.2).2).2⟩
    obtain ⟨hx, hb, hr, hml, hown, hts, hlk, hK, hA⟩ := F
    exact lv_lushr hx hb hd rfl (kk H locs ls hW hD hS hl)
  case ineg =>
    unfold a1 at h
    dsimp only at h
    split at h
    rotate_left
    · cases h
    cases h
    refine ⟨fun l p e s m args below meth c D ids ad A H locs ls Q F hW hD hS hl kk => ?_, ok.1, ok.2.1, okc trivial (okd ok.2.2).2⟩
    obtain ⟨hx, hb, hr, hml, hown, hts, hlk, hK, hA⟩ := F
    exact lv_ineg hx hb hd (kk H locs ls hW hD hS hl)
  case lneg =>
    unfold a1 at h
    dsimp only at h
    split at h
    rotate_left
    · cases h
    cases h
    refine ⟨fun l p e s m args below meth c D ids ad A H locs ls Q F hW hD hS hl kk => ?_, ok.1, ok.2.1, okc trivial (okd ok.2.2).2⟩
    obtain ⟨hx, hb, hr, hml, hown, hts, hlk, hK, hA⟩ := F
    exact lv_lneg hx hb hd (kk H locs ls hW hD hS hl)
  case i2l =>
    unfold a1 at h
    dsimp only at h
    split at h
    rotate_left
    · cases h
    cases h
    refine ⟨fun l p e s m args below meth c D ids ad A H locs ls Q F hW hD hS hl kk => ?_, ok.1, ok.2.1, okc trivial (okd ok.2.2).2⟩
    obtain ⟨hx, hb, hr, hml, hown, hts, hlk, hK, hA⟩ := F
    exact lv_i2l hx hb hd rfl (kk H locs ls hW hD hS hl)
  case l2i =>
    unfold a1 at h
    dsimp only at h
    split at h
    rotate_left
    · cases h
    cases h
    refine ⟨fun l p e s m args below meth c D ids ad A H locs ls Q F hW hD hS hl kk => ?_, ok.1, ok.2.1, okc trivial (okd ok.2.2).2⟩
    obtain ⟨hx, hb, hr, hml, hown, hts, hlk, hK, hA⟩ := F
    exact lv_l2i hx hb hd rfl (kk H locs ls hW hD hS hl)
  case i2c =>
    unfold a1 at h
    dsimp only at h
    split at h
    rotate_left
    · cases h
    cases h
    refine ⟨fun l p e s m args below meth c D ids ad A H locs ls Q F hW hD hS hl kk => ?_, ok.1, ok.2.1, okc trivial (okd ok.2.2).2⟩
    obtain ⟨hx, hb, hr, hml, hown, hts, hlk, hK, hA⟩ := F
    exact lv_i2c hx hb hd rfl (kk H locs ls hW hD hS hl)
  case i2b =>
    unfold a1 at h
    dsimp only at h
    split at h
    rotate_left
    · cases h
    cases h
    refine ⟨fun l p e s m args below meth c D ids ad A H locs ls Q F hW hD hS hl kk => ?_, ok.1, ok.2.1, okc trivial (okd ok.2.2).2⟩
    obtain ⟨hx, hb, hr, hml, hown, hts, hlk, hK, hA⟩ := F
    exact lv_i2b hx hb hd rfl (kk H locs ls hW hD hS hl)
  case lcmp =>
    unfold a1 at h
    dsimp only at h
    split at h
    rotate_left
    · cases h
    cases h
    refine ⟨fun l p e s m args below meth c D ids ad A H locs ls Q F hW hD hS hl kk => ?_, ok.1, ok.2.1, okc trivial (okd (okd ok.2.2).2).2⟩
    obtain ⟨hx, hb, hr, hml, hown, hts, hlk, hK, hA⟩ := F
    exact W.lcmp hx hb hd (kk H locs ls hW hD hS hl)
  case iinc q q2 =>
    unfold a1 at h
    dsimp only at h
    split at h
    rotate_left
    · cases h
    rename_i z hz
    cases h
    refine ⟨fun l p e s m args below meth c D ids ad A H locs ls Q F hW hD hS hl kk => ?_, ok.1, okL_set ok.2.1 trivial, ok.2.2⟩
    obtain ⟨hx, hb, hr, hml, hown, hts, hlk, hK, hA⟩ := F
    obtain ⟨k, hk⟩ := List.mem_iff_getElem?.mp ((mem_asc (ad := ad) (L := L) (q := (q, .int z))).mpr ⟨aI z, hz, rfl⟩)
    refine lv_iinc hx hb hd hl.has (k := k) (v := z + x.2.2.2.1) hk (by rw [of_decide_eq_true hx0]) (by rw [← hl.2.1]; exact (List.getElem?_eq_some_iff.mp hz).1) rfl (fun ls1 h1 => kk H locs ls1 hW hD hS (lrel_st1 hl h1))
  case dup =>
    unfold a1 at h
    dsimp only at h
    split at h
    · cases h
      refine ⟨fun l p e s m args below meth c D ids ad A H locs ls Q F hW hD hS hl kk => ?_, ok.1, ok.2.1, okc trivial (okc trivial (okd ok.2.2).2)⟩
      obtain ⟨hx, hb, hr, hml, hown, hts, hlk, hK, hA⟩ := F
      exact lv_dup hx hb hd rfl (kk H locs ls hW hD hS hl)

    · rename_i z _
      cases h
      refine ⟨fun l p e s m args below meth c D ids ad A H locs ls Q F hW hD hS hl kk => ?_, ok.1, ok.2.1, okc (okd ok.2.2).1 ok.2.2⟩
      obtain ⟨hx, hb, hr, hml, hown, hts, hlk, hK, hA⟩ := F
      exact lv_dup hx hb hd (by cases z <;> rfl) (kk H locs ls hW hD hS hl)
    · cases h
  case dup2 =>
    unfold a1 at h
    dsimp only at h
    split at h
    · rename_i z _
      cases h
      refine ⟨fun l p e s m args below meth c D ids ad A H locs ls Q F hW hD hS hl kk => ?_, ok.1, ok.2.1, okc trivial (okc (okd (okd ok.2.2).2).1 ok.2.2)⟩
      obtain ⟨hx, hb, hr, hml, hown, hts, hlk, hK, hA⟩ := F
      exact lv_dup2_11 hx hb hd rfl (by cases z <;> rfl) (kk H locs ls hW hD hS hl)
    · cases h
      refine ⟨fun l p e s m args below meth c D ids ad A H locs ls Q F hW hD hS hl kk => ?_, ok.1, ok.2.1, okc trivial (okc trivial ok.2.2)⟩
      obtain ⟨hx, hb, hr, hml, hown, hts, hlk, hK, hA⟩ := F
      exact lv_dup2_11 hx hb hd rfl rfl (kk H locs ls hW hD hS hl)
    · cases h
  case dup_x1 =>
    unfold a1 at h
    dsimp only at h
    split at h
    · rename_i z _
      cases h
      refine ⟨fun l p e s m args below meth c D ids ad A H locs ls Q F hW hD hS hl kk => ?_, ok.1, ok.2.1, okc trivial (okc (okd (okd ok.2.2).2).1 (okc trivial (okd (okd ok.2.2).2).2))⟩
      obtain ⟨hx, hb, hr, hml, hown, hts, hlk, hK, hA⟩ := F
      exact lv_dup_x1 hx hb hd rfl (by cases z <;> rfl) (kk H locs ls hW hD hS hl)
    · cases h
  case pop =>
    unfold a1 at h
    dsimp only at h
    split at h
    · cases h
      refine ⟨fun l p e s m args below meth c D ids ad A H locs ls Q F hW hD hS hl kk => ?_, ok.1, ok.2.1, (okd ok.2.2).2⟩
      obtain ⟨hx, hb, hr, hml, hown, hts, hlk, hK, hA⟩ := F
      exact lv_pop hx hb hd rfl (kk H locs ls hW hD hS hl)
    · rename_i z _
      cases h
      refine ⟨fun l p e s m args below meth c D ids ad A H locs ls Q F hW hD hS hl kk => ?_, ok.1, ok.2.1, (okd ok.2.2).2⟩
      obtain ⟨hx, hb, hr, hml, hown, hts, hlk, hK, hA⟩ := F
      exact lv_pop hx hb hd (by cases z <;> rfl) (kk H locs ls hW hD hS hl)
    · cases h
  case getfield q =>
    unfold a1 at h
    dsimp only at h
    split at h
    rotate_left
    · cases h
    rename_i c nn k r
    split at h
    rotate_left
    · cases h
    rename_i hq
    cases h
    have hq := Nat.eq_of_beq_eq_true hq
    subst hq
    simp only [Bool.and_eq_true, decide_eq_true_eq] at hx0
    obtain ⟨hF, hf⟩ := hx0
    obtain ⟨hc13, hslot, hlink⟩ := hP.2.2.1 _ hF
    have hk : κ[k]? = some (x.1, nn) := okv_at (okd ok.2.2).1 (by have := hc13; dsimp only at this; omega)
    refine ⟨fun l p e s m args below meth c D ids ad A H locs ls Q F hW hD hS hl kk => ?_, ok.1, ok.2.1, okc (gfv_ok hR hk hc13 hf) (okd ok.2.2).2⟩
    obtain ⟨hx, hb, hr, hml, hown, hts, hlk, hK, hA⟩ := F
    refine va_get hx hb hts (fun w hw => List.mem_cons_of_mem _ (cN_ws hc13 w hw)) hown hK hW k ((aW_get hk).trans (by rw [ce_obj hc13])) (acl_cN hc13) x.2.1 hslot (hts _ (List.mem_cons_of_mem _ hlink)) (fun _ h9 => h9) (v := fv ad σ k x.2.1 x.2.2.1) (by rw [List.getElem?_mapIdx, hf]; rfl) hd ?_
    rw [fv_gfv (κ := κ)]
    exact kk H locs ls hW hD hS hl
  case putfield q =>
    unfold a1 at h
    dsimp only at h
    split at h
    · rename_i y c nn k r
      split at h
      rotate_left
      · cases h
      rename_i hq
      split at h
      · rename_i ht
        cases h
        have hq := Nat.eq_of_beq_eq_true hq
        subst hq
        simp only [Bool.and_eq_true, decide_eq_true_eq] at hx0
        obtain ⟨hF, hf⟩ := hx0
        obtain ⟨hc13, hslot, hlink⟩ := hP.2.2.1 _ hF
        have hk : κ[k]? = some (x.1, nn) := okv_at (okd (okd ok.2.2).2).1 (by have := hc13; dsimp only at this; omega)
        obtain ⟨hty, hfin⟩ := fk_fact hc13 hslot hf (by rw [ht]; decide)
        refine ⟨fun l p e s m args below meth c D ids ad A H locs ls Q F hW hD hS hl kk => ?_, ok.1, ok.2.1, (okd (okd ok.2.2).2).2⟩
        obtain ⟨hx, hb, hr, hml, hown, hts, hlk, hK, hA⟩ := F
        exact va_put hx hb hts (fun w hw => List.mem_cons_of_mem _ (cN_ws hc13 w hw)) (tyN x.1) (cN_ty hc13) (cN_nm hc13) hown hK hW hD hS k ((aW_get hk).trans (by rw [ce_obj hc13])) (acl_cN hc13) x.2.1 hslot (hts _ (List.mem_cons_of_mem _ hlink)) (fun _ h9 => h9) hfin (v := .int y) (ty := .int) (by rw [cN_ty hc13 _ hslot, hty, ht]; rfl) rfl rfl (by rw [List.length_mapIdx, flds_len hc13]; exact hslot) hd (fun H1 locs1 hW1 hD1 hS1 => kk H1 locs1 ls (by rw [← aW_fI hk hc13 hf (Or.inl ht)]; exact hW1) (by rw [← aW_fI hk hc13 hf (Or.inl ht)]; exact hD1) hS1 hl)

      · rename_i ht
        cases h
        obtain ⟨z1, z2, z3⟩ := bz_nar hg
        have hq := Nat.eq_of_beq_eq_true hq
        subst hq
        simp only [Bool.and_eq_true, decide_eq_true_eq] at hx0
        obtain ⟨hF, hf⟩ := hx0
        obtain ⟨hc13, hslot, hlink⟩ := hP.2.2.1 _ hF
        have hk : κ[k]? = some (x.1, nn) := okv_at (okd (okd ok.2.2).2).1 (by have := hc13; dsimp only at this; omega)
        obtain ⟨hty, hfin⟩ := fk_fact hc13 hslot hf (by rw [ht]; decide)
        refine ⟨fun l p e s m args below meth c D ids ad A H locs ls Q F hW hD hS hl kk => ?_, ok.1, ok.2.1, (okd (okd ok.2.2).2).2⟩
        obtain ⟨hx, hb, hr, hml, hown, hts, hlk, hK, hA⟩ := F
        exact va_put hx hb hts (fun w hw => List.mem_cons_of_mem _ (cN_ws hc13 w hw)) (tyN x.1) (cN_ty hc13) (cN_nm hc13) hown hK hW hD hS k ((aW_get hk).trans (by rw [ce_obj hc13])) (acl_cN hc13) x.2.1 hslot (hts _ (List.mem_cons_of_mem _ hlink)) (fun _ h9 => h9) hfin (v := .int y) (ty := .boolean) (by rw [cN_ty hc13 _ hslot, hty, ht]; rfl) z1 z2 (by rw [List.length_mapIdx, flds_len hc13]; exact hslot) hd (fun H1 locs1 hW1 hD1 hS1 => kk H1 locs1 ls (by rw [← aW_fI hk hc13 hf (Or.inr ht)]; exact hW1) (by rw [← aW_fI hk hc13 hf (Or.inr ht)]; exact hD1) hS1 hl)

      · cases h
    · rename_i y c nn k r
      split at h
      rotate_left
      · cases h
      rename_i hq
      split at h
      · rename_i ht
        cases h
        have hq := Nat.eq_of_beq_eq_true hq
        subst hq
        simp only [Bool.and_eq_true, decide_eq_true_eq] at hx0
        obtain ⟨hF, hf⟩ := hx0
        obtain ⟨hc13, hslot, hlink⟩ := hP.2.2.1 _ hF
        have hk : κ[k]? = some (x.1, nn) := okv_at (okd (okd ok.2.2).2).1 (by have := hc13; dsimp only at this; omega)
        obtain ⟨hty, hfin⟩ := fk_fact hc13 hslot hf (by rw [ht]; decide)
        refine ⟨fun l p e s m args below meth c D ids ad A H locs ls Q F hW hD hS hl kk => ?_, ok.1, ok.2.1, (okd (okd ok.2.2).2).2⟩
        obtain ⟨hx, hb, hr, hml, hown, hts, hlk, hK, hA⟩ := F
        exact va_put hx hb hts (fun w hw => List.mem_cons_of_mem _ (cN_ws hc13 w hw)) (tyN x.1) (cN_ty hc13) (cN_nm hc13) hown hK hW hD hS k ((aW_get hk).trans (by rw [ce_obj hc13])) (acl_cN hc13) x.2.1 hslot (hts _ (List.mem_cons_of_mem _ hlink)) (fun _ h9 => h9) hfin (v := .long y) (ty := .long) (by rw [cN_ty hc13 _ hslot, hty, ht]; rfl) rfl rfl (by rw [List.length_mapIdx, flds_len hc13]; exact hslot) hd (fun H1 locs1 hW1 hD1 hS1 => kk H1 locs1 ls (by rw [← aW_fL hk hc13 hf ht]; exact hW1) (by rw [← aW_fL hk hc13 hf ht]; exact hD1) hS1 hl)

      · cases h
    · cases h
  case iaload =>
    unfold a1 at h
    dsimp only at h
    split at h
    rotate_left
    · cases h
    rename_i y n k r
    cases h
    have hk : κ[k]? = some (13, n) := (okd (okd ok.2.2).2).1
    refine ⟨fun l p e s m args below meth c D ids ad A H locs ls Q F hW hD hS hl kk => ?_, ok.1, ok.2.1, okc trivial (okd (okd ok.2.2).2).2⟩
    obtain ⟨hx, hb, hr, hml, hown, hts, hlk, hK, hA⟩ := F
    exact va_iald hx hb hK hW k 0 (aW_get hk) rfl (inb_in hg) hd (kk H locs ls hW hD hS hl)
  case baload =>
    unfold a1 at h
    dsimp only at h
    split at h
    rotate_left
    · cases h
    rename_i y n k r
    cases h
    have hk : κ[k]? = some (15, n) := (okd (okd ok.2.2).2).1
    refine ⟨fun l p e s m args below meth c D ids ad A H locs ls Q F hW hD hS hl kk => ?_, ok.1, ok.2.1, okc trivial (okd (okd ok.2.2).2).2⟩
    obtain ⟨hx, hb, hr, hml, hown, hts, hlk, hK, hA⟩ := F
    exact va_zald hx hb hK hW k 2 (aW_get hk) rfl (inb_in hg) hd (kk H locs ls hW hD hS hl)
  case laload =>
    unfold a1 at h
    dsimp only at h
    split at h
    rotate_left
    · cases h
    rename_i y n k r
    cases h
    have hk : κ[k]? = some (14, n) := (okd (okd ok.2.2).2).1
    refine ⟨fun l p e s m args below meth c D ids ad A H locs ls Q F hW hD hS hl kk => ?_, ok.1, ok.2.1, okc trivial (okd (okd ok.2.2).2).2⟩
    obtain ⟨hx, hb, hr, hml, hown, hts, hlk, hK, hA⟩ := F
    exact va_lald hx hb hK hW k 1 (aW_get hk) rfl (inb_in hg) hd (kk H locs ls hW hD hS hl)
  case aaload =>
    unfold a1 at h
    dsimp only at h
    split at h
    rotate_left
    · cases h
    rename_i y n k r
    cases h
    have hk : κ[k]? = some (16, n) := (okd (okd ok.2.2).2).1
    refine ⟨fun l p e s m args below meth c D ids ad A H locs ls Q F hW hD hS hl kk => ?_, ok.1, ok.2.1, okc (by cases hq : σ.2.2 k (ix y) with | none => trivial | some t => exact ok.1 _ _ _ _ hk hq) (okd (okd ok.2.2).2).2⟩
    obtain ⟨hx, hb, hr, hml, hown, hts, hlk, hK, hA⟩ := F
    refine va_aldq hx hb hK hW k 3 (aW_get hk) rfl (inb_in hg) hd ?_
    rw [show va_rf ((σ.2.2 k y.toNatClampNeg).map ad) = cv ad (aT (σ.2.2 k (ix y))) by unfold ix; cases σ.2.2 k y.toNatClampNeg <;> rfl]
    exact kk H locs ls hW hD hS hl
  case iastore =>
    unfold a1 at h
    dsimp only at h
    split at h
    rotate_left
    · cases h
    rename_i v y n k r
    cases h
    have hk : κ[k]? = some (13, n) := (okd (okd (okd ok.2.2).2).2).1
    refine ⟨fun l p e s m args below meth c D ids ad A H locs ls Q F hW hD hS hl kk => ?_, ok.1, ok.2.1, (okd (okd (okd ok.2.2).2).2).2⟩
    obtain ⟨hx, hb, hr, hml, hown, hts, hlk, hK, hA⟩ := F
    have hset := aW_set (ids := ids) (ad := ad) (σ := σ) (σ' := wI σ k (ix y) v) hk (by rw [ce_I, wI_at]) (fun a h => wI_off h) (fun a h => rfl) (fun a h => rfl)
    exact va_iast hx hb hK hW hD hS k 0 (aW_get hk) rfl (inb_in hg) hd (fun H1 locs1 hW1 hD1 hS1 => kk H1 locs1 ls (by rw [← hset]; exact hW1) (by rw [← hset]; exact hD1) hS1 hl)
  case bastore =>
    unfold a1 at h
    dsimp only at h
    split at h
    rotate_left
    · cases h
    rename_i v y n k r
    cases h
    have hk : κ[k]? = some (15, n) := (okd (okd (okd ok.2.2).2).2).1
    refine ⟨fun l p e s m args below meth c D ids ad A H locs ls Q F hW hD hS hl kk => ?_, ok.1, ok.2.1, (okd (okd (okd ok.2.2).2).2).2⟩
    obtain ⟨hx, hb, hr, hml, hown, hts, hlk, hK, hA⟩ := F
    rw [Bool.and_eq_true] at hg
    obtain ⟨z1, z2, z3⟩ := bz_nar hg.2
    have hset := aW_set (ids := ids) (ad := ad) (σ := σ) (σ' := wI σ k (ix y) v) hk (x := .inl (ids.2.2.1, n, .inl (upd (σ.1 k) (ix y) (vp_nar .boolean v)))) (by rw [ce_Z, wI_at, z3]) (fun a h => wI_off h) (fun a h => rfl) (fun a h => rfl)
    exact va_zast hx hb hK hW hD hS k 2 (aW_get hk) rfl (inb_in hg.1) hd (fun H1 locs1 hW1 hD1 hS1 => kk H1 locs1 ls (by rw [← hset]; exact hW1) (by rw [← hset]; exact hD1) hS1 hl)
  case lastore =>
    unfold a1 at h
    dsimp only at h
    split at h
    rotate_left
    · cases h
    rename_i v y n k r
    cases h
    have hk : κ[k]? = some (14, n) := (okd (okd (okd ok.2.2).2).2).1
    refine ⟨fun l p e s m args below meth c D ids ad A H locs ls Q F hW hD hS hl kk => ?_, ok.1, ok.2.1, (okd (okd (okd ok.2.2).2).2).2⟩
    obtain ⟨hx, hb, hr, hml, hown, hts, hlk, hK, hA⟩ := F
    have hset := aW_set (ids := ids) (ad := ad) (σ := σ) (σ' := wL σ k (ix y) v) hk (by rw [ce_L, wL_at]) (fun a h => rfl) (fun a h => wL_off h) (fun a h => rfl)
    exact va_last hx hb hK hW hD hS k 1 (aW_get hk) rfl (inb_in hg) hd (fun H1 locs1 hW1 hD1 hS1 => kk H1 locs1 ls (by rw [← hset]; exact hW1) (by rw [← hset]; exact hD1) hS1 hl)
  case aastore =>
    unfold a1 at h
    dsimp only at h
    split at h
    · rename_i t y n k r
      cases h
      have hk : κ[k]? = some (16, n) := (okd (okd (okd ok.2.2).2).2).1
      have ht : κ[t]? = some (6, 0) := (okd ok.2.2).1
      refine ⟨fun l p e s m args below meth c D ids ad A H locs ls Q F hW hD hS hl kk => ?_, okσ_wQ ok.1 (fun t' e => by cases e; exact ht), ok.2.1, (okd (okd (okd ok.2.2).2).2).2⟩
      obtain ⟨hx, hb, hr, hml, hown, hts, hlk, hK, hA⟩ := F
      have hset := aW_set (ids := ids) (ad := ad) (σ := σ) (σ' := wQ σ k (ix y) (some t)) hk (x := .inl (ids.2.2.2, n, .inr (.inr (.inr (.inr (va_up (fun j => (σ.2.2 k j).map ad) (ix y) (some (ad t)))))))) (by rw [ce_Q, wQ_at]; congr 7; funext j; simp only [va_up]; split <;> rfl) (fun a h => rfl) (fun a h => rfl) (fun a h => wQ_off h)
      exact va_astq hx hb hK hW hD hS k 3 t 6 (aW_get hk) rfl ((aW_get ht).trans (by rw [ce_obj (by decide)])) (acl_cN (c := 6) (by decide)) (inb_in hg) hd (fun H1 locs1 hW1 hD1 hS1 => kk H1 locs1 ls (by rw [← hset]; exact hW1) (by rw [← hset]; exact hD1) hS1 hl)
    · rename_i y n k r
      cases h
      have hk : κ[k]? = some (16, n) := (okd (okd (okd ok.2.2).2).2).1
      refine ⟨fun l p e s m args below meth c D ids ad A H locs ls Q F hW hD hS hl kk => ?_, okσ_wQ ok.1 (fun t' e => by cases e), ok.2.1, (okd (okd (okd ok.2.2).2).2).2⟩
      obtain ⟨hx, hb, hr, hml, hown, hts, hlk, hK, hA⟩ := F
      have hset := aW_set (ids := ids) (ad := ad) (σ := σ) (σ' := wQ σ k (ix y) none) hk (x := .inl (ids.2.2.2, n, .inr (.inr (.inr (.inr (va_up (fun j => (σ.2.2 k j).map ad) (ix y) none)))))) (by rw [ce_Q, wQ_at]; congr 7; funext j; simp only [va_up]; split <;> rfl) (fun a h => rfl) (fun a h => rfl) (fun a h => wQ_off h)
      exact va_astqN hx hb hK hW hD hS k 3 (aW_get hk) rfl (inb_in hg) hd (fun H1 locs1 hW1 hD1 hS1 => kk H1 locs1 ls (by rw [← hset]; exact hW1) (by rw [← hset]; exact hD1) hS1 hl)
    · cases h
  case arraylength =>
    unfold a1 at h
    dsimp only at h
    split at h
    rotate_left
    · cases h
    rename_i n k r
    cases h
    have hk : κ[k]? = some (13, n) := (okd ok.2.2).1
    refine ⟨fun l p e s m args below meth c D ids ad A H locs ls Q F hW hD hS hl kk => ?_, ok.1, ok.2.1, okc trivial (okd ok.2.2).2⟩
    obtain ⟨hx, hb, hr, hml, hown, hts, hlk, hK, hA⟩ := F
    exact va_alen hx hb hK hW k 0 (aW_get hk) rfl rfl hd (kk H locs ls hW hD hS hl)
  all_goals (exact absurd h (by simp [a1]))
