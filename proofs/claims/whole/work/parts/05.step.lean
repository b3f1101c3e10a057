/-! locals -/
def asc (ad : Nat → Nat) (L : List (Option AV)) : List (Nat × Value) := (L.mapIdx (fun i o => o.map (fun v => (i, cv ad v)))).filterMap id
theorem mem_asc {ad : Nat → Nat} {L : List (Option AV)} {q : Nat × Value} : q ∈ asc ad L ↔ ∃ v, L[q.1]? = some (some v) ∧ q.2 = cv ad v := by
  unfold asc
  rw [List.mem_filterMap]
  constructor
  · rintro ⟨o, ho, h⟩
    obtain ⟨i, hi⟩ := List.mem_iff_getElem?.mp ho
    rw [List.getElem?_mapIdx] at hi
    cases hL : L[i]? with
    | none => rw [hL] at hi; simp at hi
    | some o2 =>
      rw [hL] at hi
      simp at hi
      subst hi
      cases o2 with
      | none => simp at h
      | some v => simp at h; subst h; exact ⟨v, hL, rfl⟩
  · rintro ⟨v, h1, h2⟩
    refine ⟨some q, List.mem_iff_getElem?.mpr ⟨q.1, ?_⟩, rfl⟩
    rw [List.getElem?_mapIdx, h1]
    simp [← h2]
theorem lrel.has {ad : Nat → Nat} {nL : Nat} {ls : Array Slot} {L : List (Option AV)} (h : lrel ad nL ls L) : lv_has ls nL (asc ad L) :=
  ⟨h.1, h.2.2.1, fun q hq => by obtain ⟨v, h1, h2⟩ := mem_asc.mp hq; rw [h2]; exact h.2.2.2 _ _ h1⟩
theorem lrel.get {ad : Nat → Nat} {nL : Nat} {ls : Array Slot} {L : List (Option AV)} (h : lrel ad nL ls L) {i : Nat} {v : AV} (hi : L[i]? = some (some v)) : ls[i]? = some (.val (cv ad v)) := h.2.2.2 _ _ hi
theorem clr1_len {L : List (Option AV)} {n : Nat} : (clr1 L n).length = L.length := by
  unfold clr1
  cases n with
  | zero => rfl
  | succ m => dsimp only; split <;> simp
theorem clr1_get {L : List (Option AV)} {n j : Nat} {v : AV} (h : (clr1 L n)[j]? = some (some v)) : L[j]? = some (some v) ∧ ¬ (j + 1 = n ∧ ∃ x, v = aL x) := by
  unfold clr1 at h
  cases n with
  | zero => exact ⟨h, fun q => by omega⟩
  | succ m =>
    dsimp only at h
    split at h
    · rename_i x hx
      by_cases hj : j = m
      · subst hj
        rw [List.getElem?_set] at h
        simp at h
      · rw [List.getElem?_set_ne (fun e => hj e.symm)] at h
        exact ⟨h, fun q => hj (by omega)⟩
    · rename_i hn
      refine ⟨h, fun q => ?_⟩
      obtain ⟨q1, x, rfl⟩ := q
      have : j = m := by omega
      subst this
      exact hn x h
theorem cv_cat (ad : Nat → Nat) (v : AV) : (cv ad v).category = 2 → ∃ x, v = aL x := by
  intro h
  rcases v with x | x | _ | x
  · simp [cv, Value.category] at h
  · exact ⟨x, rfl⟩
  · simp [cv, Value.category] at h
  · simp [cv, Value.category] at h
theorem lrel_st1 {ad : Nat → Nat} {nL : Nat} {ls ls' : Array Slot} {L : List (Option AV)} {n : Nat} {v : AV} (h : lrel ad nL ls L)
    (hh : lv_has ls' nL ((n, cv ad v) :: (asc ad L).filter (fun q => !(q.1 == n) && !(q.1 + 1 == n && q.2.category == 2)))) : lrel ad nL ls' ((clr1 L n).set n (some v)) := by
  refine ⟨hh.1, by rw [List.length_set, clr1_len]; exact h.2.1, hh.2.1, fun i w hi => ?_⟩
  by_cases e : i = n
  · subst e
    rw [List.getElem?_set] at hi
    simp at hi
    obtain ⟨-, rfl⟩ := hi
    exact hh.2.2 (i, cv ad v) List.mem_cons_self
  · rw [List.getElem?_set_ne (fun q => e q.symm)] at hi
    obtain ⟨h1, h2⟩ := clr1_get hi
    refine hh.2.2 (i, cv ad w) (List.mem_cons_of_mem _ (List.mem_filter.mpr ⟨mem_asc.mpr ⟨w, h1, rfl⟩, ?_⟩))
    have a1 : (i == n) = false := by simpa using e
    have a2 : (i + 1 == n && (cv ad w).category == 2) = false := by
      cases hq : (i + 1 == n && (cv ad w).category == 2) with
      | false => rfl
      | true =>
        simp at hq
        exact absurd ⟨hq.1, cv_cat ad w hq.2⟩ h2
    simp [a1, a2]
theorem lrel_st2 {ad : Nat → Nat} {nL : Nat} {ls ls' : Array Slot} {L : List (Option AV)} {n : Nat} {v : AV} (h : lrel ad nL ls L)
    (hh : lv_has ls' nL ((n, cv ad v) :: (asc ad L).filter (fun q => !(q.1 == n) && (!(q.1 == n + 1) && !(q.1 + 1 == n && q.2.category == 2))))) : lrel ad nL ls' (((clr1 L n).set n (some v)).set (n + 1) none) := by
  refine ⟨hh.1, by rw [List.length_set, List.length_set, clr1_len]; exact h.2.1, hh.2.1, fun i w hi => ?_⟩
  by_cases e1 : i = n + 1
  · subst e1
    rw [List.getElem?_set] at hi
    simp at hi
  rw [List.getElem?_set_ne (fun q => e1 q.symm)] at hi
  by_cases e : i = n
  · subst e
    rw [List.getElem?_set] at hi
    simp at hi
    obtain ⟨-, rfl⟩ := hi
    exact hh.2.2 (i, cv ad v) List.mem_cons_self
  · rw [List.getElem?_set_ne (fun q => e q.symm)] at hi
    obtain ⟨h1, h2⟩ := clr1_get hi
    refine hh.2.2 (i, cv ad w) (List.mem_cons_of_mem _ (List.mem_filter.mpr ⟨mem_asc.mpr ⟨w, h1, rfl⟩, ?_⟩))
    have a1 : (i == n) = false := by simpa using e
    have a3 : (i == n + 1) = false := by simpa using e1
    have a2 : (i + 1 == n && (cv ad w).category == 2) = false := by
      cases hq : (i + 1 == n && (cv ad w).category == 2) with
      | false => rfl
      | true =>
        simp at hq
        exact absurd ⟨hq.1, cv_cat ad w hq.2⟩ h2
    simp [a1, a2, a3]
/-! cells -/
theorem aW_get {ids : Ids} {ad : Nat → Nat} {κ : Kd} {σ : Sg} {k : Nat} {q : Nat × Nat} (h : κ[k]? = some q) : (aW ids ad κ σ)[k]? = some (ad k, ce ids ad σ k q) := by
  unfold aW
  rw [List.getElem?_mapIdx, h]
  rfl
theorem ce_obj {ids : Ids} {ad : Nat → Nat} {σ : Sg} {k c n : Nat} (h : c < 13) : ce ids ad σ k (c, n) = .inr (c, (flds c).mapIdx (fun j f => fv ad σ k j f)) := by
  unfold ce
  rw [if_neg (by show ¬ c = 13; omega), if_neg (by show ¬ c = 14; omega), if_neg (by show ¬ c = 15; omega), if_neg (by show ¬ c = 16; omega)]
theorem ce_I {ids : Ids} {ad : Nat → Nat} {σ : Sg} {k n : Nat} : ce ids ad σ k (13, n) = .inl (ids.1, n, .inl (σ.1 k)) := rfl
theorem ce_L {ids : Ids} {ad : Nat → Nat} {σ : Sg} {k n : Nat} : ce ids ad σ k (14, n) = .inl (ids.2.1, n, .inr (.inl (σ.2.1 k))) := rfl
theorem ce_Z {ids : Ids} {ad : Nat → Nat} {σ : Sg} {k n : Nat} : ce ids ad σ k (15, n) = .inl (ids.2.2.1, n, .inl (σ.1 k)) := rfl
theorem ce_Q {ids : Ids} {ad : Nat → Nat} {σ : Sg} {k n : Nat} : ce ids ad σ k (16, n) = .inl (ids.2.2.2, n, .inr (.inr (.inr (.inr (fun j => (σ.2.2 k j).map ad))))) := rfl
theorem ce_off {ids : Ids} {ad : Nat → Nat} {σ σ' : Sg} {k : Nat} (h1 : σ'.1 k = σ.1 k) (h2 : σ'.2.1 k = σ.2.1 k) (h3 : σ'.2.2 k = σ.2.2 k) (q : Nat × Nat) : ce ids ad σ' k q = ce ids ad σ k q := by
  unfold ce fv
  rw [h1, h2, h3]
theorem aW_set {ids : Ids} {ad : Nat → Nat} {κ : Kd} {σ σ' : Sg} {k : Nat} {q : Nat × Nat} {x : va_E} (hk : κ[k]? = some q) (hx : x = ce ids ad σ' k q)
    (h1 : ∀ a, a ≠ k → σ'.1 a = σ.1 a) (h2 : ∀ a, a ≠ k → σ'.2.1 a = σ.2.1 a) (h3 : ∀ a, a ≠ k → σ'.2.2 a = σ.2.2 a) : (aW ids ad κ σ).set k (ad k, x) = aW ids ad κ σ' := by
  subst hx
  apply List.ext_getElem?
  intro i
  by_cases e : i = k
  · subst e
    rw [List.getElem?_set]
    have hl : i < (aW ids ad κ σ).length := by
      unfold aW
      rw [List.length_mapIdx]
      exact (List.getElem?_eq_some_iff.mp hk).1
    rw [if_pos rfl, if_pos hl, aW_get hk]
  · rw [List.getElem?_set_ne (fun q => e q.symm)]
    unfold aW
    rw [List.getElem?_mapIdx, List.getElem?_mapIdx]
    cases κ[i]? with
    | none => rfl
    | some z =>
      show some (ad i, ce ids ad σ i z) = some (ad i, ce ids ad σ' i z)
      rw [ce_off (h1 i e) (h2 i e) (h3 i e)]
theorem wI_at {σ : Sg} {k i : Nat} {v : Int32} : (wI σ k i v).1 k = upd (σ.1 k) i v := by
  funext j
  simp [wI, upd]
theorem wI_off {σ : Sg} {k i a : Nat} {v : Int32} (h : a ≠ k) : (wI σ k i v).1 a = σ.1 a := by
  funext j
  simp [wI, h]
theorem wL_at {σ : Sg} {k i : Nat} {v : Int64} : (wL σ k i v).2.1 k = vp_updL (σ.2.1 k) i v := by
  funext j
  simp [wL, vp_updL]
theorem wL_off {σ : Sg} {k i a : Nat} {v : Int64} (h : a ≠ k) : (wL σ k i v).2.1 a = σ.2.1 a := by
  funext j
  simp [wL, h]
theorem wQ_at {σ : Sg} {k i : Nat} {v : Option Nat} : (wQ σ k i v).2.2 k = va_up (σ.2.2 k) i v := by
  funext j
  simp [wQ, va_up]
theorem wQ_off {σ : Sg} {k i a : Nat} {v : Option Nat} (h : a ≠ k) : (wQ σ k i v).2.2 a = σ.2.2 a := by
  funext j
  simp [wQ, h]
theorem aW_fI {ids : Ids} {ad : Nat → Nat} {κ : Kd} {σ : Sg} {k c n j : Nat} {f : FK} {y : Int32} (hk : κ[k]? = some (c, n)) (hc : c < 13) (hf : (flds c)[j]? = some f) (ht : f.1 = 0 ∨ f.1 = 3) :
    (aW ids ad κ σ).set k (ad k, .inr (c, ((flds c).mapIdx (fun j f => fv ad σ k j f)).set j (.int y))) = aW ids ad κ (wI σ k j y) := by
  refine aW_set hk ?_ (fun a h => wI_off h) (fun a h => rfl) (fun a h => rfl)
  rw [ce_obj hc]
  congr 2
  apply List.ext_getElem?
  intro i
  by_cases e : i = j
  · subst e
    rw [List.getElem?_set, if_pos rfl, List.getElem?_mapIdx, hf]
    have hl : i < (List.mapIdx (fun j f => fv ad σ k j f) (flds c)).length := by
      rw [List.length_mapIdx]
      exact (List.getElem?_eq_some_iff.mp hf).1
    rw [if_pos hl]
    show _ = some (fv ad (wI σ k i y) k i f)
    unfold fv
    rw [if_neg (by omega), if_neg (by omega), wI_at]
    simp [upd]
  · rw [List.getElem?_set_ne (fun q => e q.symm), List.getElem?_mapIdx, List.getElem?_mapIdx]
    cases (flds c)[i]? with
    | none => rfl
    | some z =>
      show some (fv ad σ k i z) = some (fv ad (wI σ k j y) k i z)
      unfold fv
      rw [wI_at]
      simp [upd, e, wI]
theorem aW_fL {ids : Ids} {ad : Nat → Nat} {κ : Kd} {σ : Sg} {k c n j : Nat} {f : FK} {y : Int64} (hk : κ[k]? = some (c, n)) (hc : c < 13) (hf : (flds c)[j]? = some f) (ht : f.1 = 1) :
    (aW ids ad κ σ).set k (ad k, .inr (c, ((flds c).mapIdx (fun j f => fv ad σ k j f)).set j (.long y))) = aW ids ad κ (wL σ k j y) := by
  refine aW_set hk ?_ (fun a h => rfl) (fun a h => wL_off h) (fun a h => rfl)
  rw [ce_obj hc]
  congr 2
  apply List.ext_getElem?
  intro i
  by_cases e : i = j
  · subst e
    rw [List.getElem?_set, if_pos rfl, List.getElem?_mapIdx, hf]
    have hl : i < (List.mapIdx (fun j f => fv ad σ k j f) (flds c)).length := by
      rw [List.length_mapIdx]
      exact (List.getElem?_eq_some_iff.mp hf).1
    rw [if_pos hl]
    show _ = some (fv ad (wL σ k i y) k i f)
    unfold fv
    rw [if_neg (by omega), if_pos ht, wL_at]
    simp [vp_updL]
  · rw [List.getElem?_set_ne (fun q => e q.symm), List.getElem?_mapIdx, List.getElem?_mapIdx]
    cases (flds c)[i]? with
    | none => rfl
    | some z =>
      show some (fv ad σ k i z) = some (fv ad (wL σ k j y) k i z)
      unfold fv
      rw [wL_at]
      simp [vp_updL, e, wL]
theorem aW_len {ids : Ids} {ad : Nat → Nat} {κ : Kd} {σ : Sg} : (aW ids ad κ σ).length = κ.length := by
  unfold aW
  rw [List.length_mapIdx]
/-! one step over the machine -/
def StepW (κ : Kd) (P : AP) (d pc : Nat) (L : List (Option AV)) (stk : List AV) (σ : Sg) (pc' : Nat) (L' : List (Option AV)) (stk' : List AV) (σ' : Sg) : Prop :=
  ∀ (l : Launch) (p : Program) (e : Env) (s : State) (m : MethodId) (args : Array Value) (below : List Frame) (meth : Method) (c : Code) (D : va_G) (ids : Ids) (ad : Nat → Nat) (A : Nat → Prop) (H : Heap) (locs : List Loc) (ls : Array Slot) (Q : State → Prop),
    Fx P p s m args meth c D ids A ad → va_P D acl (aW ids ad κ σ) H → va_D A (aW ids ad κ σ) → va_S A s.heap H locs → lrel ad P.2.2.1 ls L →
    (∀ (H' : Heap) (locs' : List Loc) (ls' : Array Slot), va_P D acl (aW ids ad κ σ') H' → va_D A (aW ids ad κ σ') → va_S A s.heap H' locs' → lrel ad P.2.2.1 ls' L' →
      W p l e (rmA d) s m args below meth c H' locs' 0 0 Q (F0 m pc' ls' (stk'.map (cv ad)))) →
    W p l e (rmA d) s m args below meth c H locs 0 0 Q (F0 m pc ls (stk.map (cv ad)))
def okS (κ : Kd) (st : ASt) : Prop := okσ κ st.2.2 ∧ (∀ v, some v ∈ st.1 → okv κ v) ∧ ∀ v ∈ st.2.1, okv κ v
theorem okσ_wI {κ : Kd} {σ : Sg} {k i : Nat} {v : Int32} (h : okσ κ σ) : okσ κ (wI σ k i v) := h
theorem okσ_wL {κ : Kd} {σ : Sg} {k i : Nat} {v : Int64} (h : okσ κ σ) : okσ κ (wL σ k i v) := h
theorem okL_set {κ : Kd} {L : List (Option AV)} {n : Nat} {v : AV} (h : ∀ w, some w ∈ L → okv κ w) (hv : okv κ v) : ∀ w, some w ∈ (clr1 L n).set n (some v) → okv κ w := by
  intro w hw
  obtain ⟨i, hi⟩ := List.mem_iff_getElem?.mp hw
  by_cases e : i = n
  · subst e
    rw [List.getElem?_set] at hi
    simp at hi
    rw [← hi.2]; exact hv
  · rw [List.getElem?_set_ne (fun q => e q.symm)] at hi
    exact h w (List.mem_iff_getElem?.mpr ⟨i, (clr1_get hi).1⟩)
theorem okL_none {κ : Kd} {L : List (Option AV)} {n : Nat} (h : ∀ w, some w ∈ L → okv κ w) : ∀ w, some w ∈ L.set n none → okv κ w := by
  intro w hw
  obtain ⟨i, hi⟩ := List.mem_iff_getElem?.mp hw
  by_cases e : i = n
  · subst e
    rw [List.getElem?_set] at hi
    simp at hi
  · rw [List.getElem?_set_ne (fun q => e q.symm)] at hi
    exact h w (List.mem_iff_getElem?.mpr ⟨i, hi⟩)
