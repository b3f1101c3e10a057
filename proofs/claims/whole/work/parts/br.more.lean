/-! other lengths elsewhere -/
def LK (κ κ' : Kd) (x : Nat) : Prop := ∀ j, 1 ≤ j → j ≤ 5 → lenOf κ' (x + j) = lenOf κ (x + j)
section KAP
variable {κ κ' : Kd} {x : Nat}
theorem K_sign (h : LK κ κ' x) : f_X6_sign κ' x = f_X6_sign κ x := by
  funext v σ
  unfold f_X6_sign
  rw [h 2 (by decide) (by decide)]
  rfl
theorem K_argument (h : LK κ κ' x) : f_X6_argument κ' x = f_X6_argument κ x := by
  funext v σ
  unfold f_X6_argument
  rw [h 3 (by decide) (by decide)]
  rfl
theorem K_first (h : LK κ κ' x) : f_X6_firstSign κ' x = f_X6_firstSign κ x := by
  funext v σ
  unfold f_X6_firstSign
  rw [h 4 (by decide) (by decide)]
  rfl
theorem K_behind (h : LK κ κ' x) : f_X6_behindSigns κ' x = f_X6_behindSigns κ x := by
  funext v σ
  unfold f_X6_behindSigns
  rw [h 5 (by decide) (by decide)]
  rfl
theorem K_v26 {t : Nat} (h : LK κ κ' x) : ∀ fu : Nat, f_X1_value_26 κ' t x fu = f_X1_value_26 κ t x fu
  | 0 => rfl
  | fu + 1 => by
    have ih := K_v26 (t := t) h fu
    funext v4 v5 v6 v7 v8 σ
    unfold f_X1_value_26 f_X1_value_144 f_X1_value_108 f_X1_value_189 f_X1_value_195
    rw [K_sign h, K_argument h, ih]
theorem K_value {t : Nat} (h : LK κ κ' x) : f_X1_value κ' t x = f_X1_value κ t x := by
  funext v3 v4 v5 σ
  unfold f_X1_value
  rw [K_first h, K_behind h, K_v26 h]
theorem K_rate22 {t : Nat} (h : LK κ κ' x) (v3 v4 v5 v6 : Int32) (σ : Sg) : f_X1_rate_22 κ' t (some x) v3 v4 v5 v6 σ = f_X1_rate_22 κ t (some x) v3 v4 v5 v6 σ := by
  have e : ∀ κ : Kd, f_X1_rate_22 κ t (some x) v3 v4 v5 v6 σ = bnd (f_X6_firstSign κ x v3 σ) fun r7 σ6 => if r7 = (-1) then f_X1_rate_37 κ t v3 v4 v5 v6 σ6 else bnd (f_X1_value κ t x v3 v4 v5 σ6) fun r10 σ9 => f_X1_rate_60 κ t v6 r10 σ9 := fun _ => rfl
  rw [e, e, K_first h, K_value h]
  rfl
theorem K_rate {t : Nat} (h : LK κ κ' x) (v3 v4 v5 : Int32) (σ : Sg) : f_X1_rate κ' t (some x) v3 v4 v5 σ = f_X1_rate κ t (some x) v3 v4 v5 σ := by
  unfold f_X1_rate
  rw [K_rate22 h, K_rate22 h, K_rate22 h]
end KAP
theorem RX.more {κ κ' : Kd} {σ0 σF : Sg} {x : Nat} {Lw : Nat → Option LV} (h : RX κ σ0 (some x) Lw) (hx : 72 ≤ x) (hk : LK κ κ' x) (e : ∀ a, x + 1 ≤ a → a ≤ x + 5 → ∀ j, σF.1 a j = σ0.1 a j) : RX κ' σF (some x) Lw := by
  intro σ t A l k n h1 h2 h3 h4 h5 h6 h7
  rw [K_rate hk]
  refine h σ t A l k n (fun a ha j => ?_) h2 h3 h4 h5 h6 h7
  obtain ⟨q1, y, q2, q3, q4⟩ := ha
  cases q2
  rw [h1 a ⟨q1, x, rfl, q3, q4⟩ j, e a q3 q4 j]
theorem SAY.more {σ0 σ1 : Sg} {t : Nat} {Lw : Nat → Option LV} (h : SAY σ0 (nI t) Lw) (ht : t < 4) (e : ∀ j, 705 * t ≤ j → j < 705 * t + 705 → σ1.1 3 j = σ0.1 3 j) : SAY σ1 (nI t) Lw := by
  intro σ A l k n w h1
  refine h σ A l k n w (fun j hj => ?_)
  obtain ⟨t2, q1, q2, q3, q4⟩ := hj
  have tt : t = t2 := (nI_eq (by omega) (by omega)).mp q1
  subst tt
  rw [h1 j ⟨t, rfl, q2, q3, q4⟩, e j q3 q4]
theorem XTX.more {κ κ' : Kd} {σ σ' : Sg} {r : Nat} {L : Nat → Option LV} {n : Nat} {ck : Nat → Nat} {cn : Nat → Nat → Nat} (h : XTX κ σ r L n ck cn) (hr : 72 ≤ r) (hk : LK κ κ' r) (e : ∀ a, r + 1 ≤ a → a ≤ r + 5 → ∀ j, σ'.1 a j = σ.1 a j) : XTX κ' σ' r L n ck cn :=
  ⟨h.1.more hr hk e, by rw [hk 1 (by decide) (by decide)]; exact h.2.1, fun k hk => ⟨by rw [e _ (by omega) (by omega)]; exact (h.2.2 k hk).1, fun j hj => by rw [e _ (by omega) (by omega)]; exact (h.2.2 k hk).2 j hj⟩⟩
theorem MTX.more {σ σ' : Sg} {t : Nat} {L : Nat → Option LV} {n : Nat} {ck : Nat → Nat} {cn : Nat → Nat → Nat} (h : MTX σ t L n ck cn) (ht : t < 4) (hn : n ≤ 24) (e : ∀ j, 705 * t ≤ j → j < 705 * t + 705 → σ'.1 3 j = σ.1 3 j) : MTX σ' t L n ck cn :=
  ⟨h.1.more ht e, by rw [e _ (by omega) (by omega)]; exact h.2.1, fun k hk => ⟨by rw [e _ (by omega) (by omega)]; exact (h.2.2 k hk).1, fun j hj => by
    have a3 := ari_3 (ck k)
    rw [e _ (by omega) (by omega)]
    exact (h.2.2 k hk).2 j hj⟩⟩
theorem WF_1 {A : Nat → Nat} {v : Nat} (h : WF A) (hv : v ≤ 4) (h2 : A 2 ≤ v) : WF (up A 1 v) := by
  obtain ⟨w1, w2, w3, w4, w5, w6, w7, w8, w9, w10, w11, w12⟩ := h
  refine ⟨w1.cong (fun j hj => up_ne (by omega)), BN_congr w2 (fun j hj => up_ne (by omega)), BR_of w3 (fun j hj => up_ne (by omega)), BS_congr w4 w1.1 (fun j hj => up_ne (by omega)), by rw [up_hit]; exact hv, by rw [up_hit, up_ne (by decide)]; exact h2, by rw [up_ne (by decide)]; exact w7, by rw [up_ne (by decide)]; exact w8, fun i hi => ?_, fun i hi => by rw [up_ne (by omega)]; exact w10 i hi, fun i hi => by rw [up_ne (by omega)]; exact w11 i hi, fun i hi => ?_⟩
  · rw [up_ne (by decide)] at hi
    rw [up_ne (by omega), up_ne (by omega), up_ne (by omega)]
    exact w9 i hi
  · rw [up_ne (by decide)] at hi
    rw [up_ne (by omega), up_ne (by omega), up_ne (by omega)]
    exact w12 i hi
