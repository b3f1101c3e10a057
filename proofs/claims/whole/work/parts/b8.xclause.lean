/-! text: a clause, pure, and the class's -/
def clsP (K V : Nat → Nat) (n : Nat) (seen : Nat → Bool) (p : Nat) : PR :=
  if 11 < K p then (1, p, [])
  else if K p < 3 ∧ seen (K p) = true then (4, p, [])
  else if 24 ≤ n then (6, p, [])
  else nxR (wdP K 42) (if K p < 3 then sumP K (OA K V (K p) 300 8).1 300 (p + 1) else actP K V (K p) (p + 1))
theorem AS.ofS {P : Nat → Nat} {m lw s : Nat} {cX : Nat → Nat × Nat} {S : Nat → Nat → Prop} {σ σ' : Sg} {r : PR} (h : AS P m lw s cX σ r) (f : fr S σ σ') (hS : ∀ x j, S x j → x ≠ 55 ∧ x ≠ 56 ∧ ¬ (x = 49 ∧ (j = 1 ∨ j = 2 ∨ j = 4 ∨ j = 9 ∨ j = 12))) : AS P m lw s cX σ' r := by
  have o : ∀ x j, (x = 55 ∨ x = 56 ∨ (x = 49 ∧ (j = 1 ∨ j = 2 ∨ j = 4 ∨ j = 9 ∨ j = 12))) → σ'.1 x j = σ.1 x j := fun x j g => f.1 x j (fun q => by have := hS x j q; omega)
  refine ⟨fun z => ?_, fun z => ?_⟩
  · obtain ⟨⟨a1, a2, a3, a4, a5⟩, b, c⟩ := h.1 z
    refine ⟨⟨?_, ?_, ?_, ?_, ?_⟩, b, fun j hj => ?_⟩
    · rw [o _ _ (by omega)]; exact a1
    · rw [o _ _ (by omega)]; exact a2
    · rw [o _ _ (by omega)]; exact a3
    · rw [o _ _ (by omega)]; exact a4
    · rw [o _ _ (by omega)]; exact a5
    · rw [o _ _ (by omega), o _ _ (by omega)]; exact c j hj
  · obtain ⟨b, a1, a2, a3, s, a4, a5⟩ := h.2 z
    refine ⟨b, ?_, ?_, ?_, s, a4, ?_⟩
    · rw [o _ _ (by omega)]; exact a1
    · rw [o _ _ (by omega)]; exact a2
    · rw [o _ _ (by omega)]; exact a3
    · rw [o _ _ (by omega)]; exact a5
abbrev Scl : Nat → Nat → Prop := fun x j => (x = 49 ∧ (j = 1 ∨ j = 2 ∨ j = 4 ∨ j = 6 ∨ j = 9 ∨ j = 12)) ∨ (54 ≤ x ∧ x ≤ 58)
theorem XTk.ofc {σ σ' : Sg} {K V P : Nat → Nat} {m : Nat} (h : XTk σ K V P m) (f : fr Scl σ σ') : XTk σ' K V P m := ⟨by rw [f.1 _ _ (by omega)]; exact h.1, fun j hj => by rw [f.1 _ _ (by omega), f.1 _ _ (by omega), f.1 _ _ (by omega)]; exact h.2 j hj⟩
def upF {α : Type} (g : Nat → α) (n : Nat) (x : α) : Nat → α := fun j => if j = n then x else g j
theorem upF_hit {α : Type} {g : Nat → α} {n : Nat} {x : α} : upF g n x n = x := if_pos rfl
theorem upF_ne {α : Type} {g : Nat → α} {n j : Nat} {x : α} (h : j ≠ n) : upF g n x j = g j := if_neg h
def CLS (σ : Sg) (n : Nat) (ck : Nat → Nat) (cn : Nat → Nat → Nat) : Prop := n ≤ 24 ∧ σ.1 49 6 = nI n ∧ ∀ k, k < n → σ.1 54 (4 * k) = nI (ck k) ∧ ∀ j, j < ari (ck k) → σ.1 54 (4 * k + 1 + j) = nI (cn k j)
def LWS (σ : Sg) (s : Nat) (Lw : Nat → Option LV) (cX : Nat → Nat × Nat) : Prop := ∀ l, l < 3 → (Lw l = none ∧ σ.1 57 l = -1) ∨ ∃ v s' e, Lw l = some v ∧ s' ≤ 300 ∧ σ.1 57 l = nI s' ∧ σ.1 58 l = nI e ∧ e ≤ s ∧ SEG cX s' e v
def CSX (K V P : Nat → Nat) (m : Nat) (σ : Sg) (p s n : Nat) (ck : Nat → Nat) (cn : Nat → Nat → Nat) (Lw : Nat → Option LV) (cX : Nat → Nat × Nat) : Prop := XTk σ K V P m ∧ (∃ lw, RSr σ p s lw) ∧ p ≤ m ∧ s ≤ p ∧ XC σ cX s ∧ CLS σ n ck cn ∧ LWS σ s Lw cX
theorem CLS.add {σ σ' : Sg} {n kd : Nat} {ck : Nat → Nat} {cn : Nat → Nat → Nat} {c : Nat → Nat} (h : CLS σ n ck cn) (hn : n < 24) (o : ∀ k, k < 4 * n → σ'.1 54 k = σ.1 54 k) (h6 : σ'.1 49 6 = nI (n + 1)) (g : σ'.1 54 (4 * n) = nI kd) (g2 : ∀ j, j < ari kd → σ'.1 54 (4 * n + 1 + j) = nI (c j)) : CLS σ' (n + 1) (upF ck n kd) (upF cn n c) := by
  have ha : ∀ k, ari k ≤ 3 := by
    intro k
    unfold ari
    repeat' split
    all_goals omega
  refine ⟨by omega, h6, fun k hk => ?_⟩
  by_cases z : k = n
  · rw [z, upF_hit, upF_hit]
    exact ⟨g, g2⟩
  · rw [upF_ne z, upF_ne z]
    obtain ⟨a, b⟩ := h.2.2 k (by omega)
    refine ⟨by rw [o _ (by omega)]; exact a, fun j hj => ?_⟩
    have := ha (ck k)
    rw [o _ (by omega)]
    exact b j hj
theorem num_ge {K V : Nat → Nat} {lo hi : Nat} {r : PR} (h : (nxR (numP K V lo hi) r).1 = 0) : r.1 = 0 ∧ r.2.1 ≤ (nxR (numP K V lo hi) r).2.1 := by
  obtain ⟨a, b, c⟩ := nx_ok h
  rw [c, (num_ok b).1]
  exact ⟨a, Nat.le_succ _⟩
theorem wd_ge {K : Nat → Nat} {k : Nat} {r : PR} (h : (nxR (wdP K k) r).1 = 0) : r.1 = 0 ∧ r.2.1 ≤ (nxR (wdP K k) r).2.1 := by
  obtain ⟨a, b, c⟩ := nx_ok h
  rw [c, (wd_ok b).1]
  exact ⟨a, Nat.le_succ _⟩
theorem act_ge {K V : Nat → Nat} {kd p : Nat} (h : (actP K V kd p).1 = 0) : p ≤ (actP K V kd p).2.1 := by
  unfold actP at h ⊢
  by_cases a : kd = 3
  · rw [if_pos a] at h ⊢
    have h3 := num_ge h
    have h2 := wd_ge h3.1
    have h1 := num_ge h2.1
    exact Nat.le_trans h1.2 (Nat.le_trans h2.2 h3.2)
  rw [if_neg a] at h ⊢
  by_cases a : kd = 4
  · rw [if_pos a] at h ⊢
    have h5 := num_ge h
    have h4 := wd_ge h5.1
    have h3 := num_ge h4.1
    have h2 := wd_ge h3.1
    have h1 := num_ge h2.1
    exact Nat.le_trans h1.2 (Nat.le_trans h2.2 (Nat.le_trans h3.2 (Nat.le_trans h4.2 h5.2)))
  rw [if_neg a] at h ⊢
  by_cases a : kd = 8
  · rw [if_pos a] at h ⊢
    have h3 := num_ge h
    have h2 := wd_ge h3.1
    have h1 := num_ge h2.1
    exact Nat.le_trans h1.2 (Nat.le_trans h2.2 h3.2)
  rw [if_neg a] at h ⊢
  by_cases a : kd = 11
  · rw [if_pos a] at h ⊢
    exact (num_ge h).2
  rw [if_neg a] at h ⊢
  exact (num_ge h).2
theorem x_law {K V P : Nat → Nat} {m : Nat} (t : TK K V m) {lw : Nat} (hl : lw < 3) : XOUT K V P m lw 8 92 0 SemN (sumP K (OA K V lw 300 8).1 300) := x_sum t rfl (x_product t rfl (x_OA t hl rfl 8).1 (by decide)) (by decide)
theorem x_clause {K V P : Nat → Nat} {m : Nat} (t : TK K V m) {σ : Sg} {p s n : Nat} {ck : Nat → Nat} {cn : Nat → Nat → Nat} {Lw : Nat → Option LV} {cX : Nat → Nat × Nat} (I : CSX K V P m σ p s n ck cn Lw cX) : ((clsP K V n (fun l => (Lw l).isSome) p).1 = 0 → ∃ σ' s' dX Lw', f_X3_clause σ = some σ' ∧ fr Scl σ σ' ∧ CSX K V P m σ' (clsP K V n (fun l => (Lw l).isSome) p).2.1 s' (n + 1) (upF ck n (K p)) (upF cn n (nth (clsP K V n (fun l => (Lw l).isSome) p).2.2)) Lw' dX ∧ (K p < 3 → Lw (K p) = none ∧ ∃ v, dep v ∧ GN (clsP K V n (fun l => (Lw l).isSome) p).2.2 v ∧ Lw' = upF Lw (K p) (some v)) ∧ (¬ K p < 3 → Lw' = Lw)) ∧ ((clsP K V n (fun l => (Lw l).isSome) p).1 ≠ 0 → ∃ σ', f_X3_clause σ = some σ' ∧ fr Scl σ σ' ∧ (clsP K V n (fun l => (Lw l).isSome) p).1 < 100 ∧ FS σ' m (clsP K V n (fun l => (Lw l).isSome) p).1 (P (clsP K V n (fun l => (Lw l).isSome) p).2.1)) := by
  obtain ⟨hX, ⟨lw0, hr⟩, hp, hsp, hc, hC, hL⟩ := I
  have m3 := t.1
  have kd := x_kindT t hX (p := p) (by omega)
  have k50 := t.2.2.1 p
  have r4 := hr.2.2.1
  have bad : ∀ f, f < 100 → f ≠ 0 → clsP K V n (fun l => (Lw l).isSome) p = (f, p, []) → (∀ u, f_X3_fail (nI f) σ = some u → f_X3_clause σ = some u) → ((clsP K V n (fun l => (Lw l).isSome) p).1 = 0 → ∃ σ' s' dX Lw', f_X3_clause σ = some σ' ∧ fr Scl σ σ' ∧ CSX K V P m σ' (clsP K V n (fun l => (Lw l).isSome) p).2.1 s' (n + 1) (upF ck n (K p)) (upF cn n (nth (clsP K V n (fun l => (Lw l).isSome) p).2.2)) Lw' dX ∧ (K p < 3 → Lw (K p) = none ∧ ∃ v, dep v ∧ GN (clsP K V n (fun l => (Lw l).isSome) p).2.2 v ∧ Lw' = upF Lw (K p) (some v)) ∧ (¬ K p < 3 → Lw' = Lw)) ∧ ((clsP K V n (fun l => (Lw l).isSome) p).1 ≠ 0 → ∃ σ', f_X3_clause σ = some σ' ∧ fr Scl σ σ' ∧ (clsP K V n (fun l => (Lw l).isSome) p).1 < 100 ∧ FS σ' m (clsP K V n (fun l => (Lw l).isSome) p).1 (P (clsP K V n (fun l => (Lw l).isSome) p).2.1)) := by
    intro f hf hf0 e g
    obtain ⟨u, u1, u2, u3⟩ := x_fail (f := f) t hX hr hp (by omega)
    rw [e]
    exact ⟨fun q => absurd q hf0, fun _ => ⟨u, g u u1, u2.mono (fun x j q => by omega), hf, u3⟩⟩
  by_cases k11 : 11 < K p
  · refine bad 1 (by decide) (by decide) (if_pos k11) (fun u u1 => ?_)
    have u1' : f_X3_fail 1 σ = some u := u1
    unfold f_X3_clause f_X3_clause_134
    rw [r4, kd, e_bnd, if_neg (show ¬ (nI (K p) ≤ 11) from nI_ge (a := 11) (by omega) (by omega)), u1', e_bndV]
  have c11 : nI (K p) ≤ 11 := nI_le (b := 11) (by omega) (by omega)
  have h24 : ¬ n < 24 → ∀ u, f_X3_fail 6 σ = some u → f_X3_clause_49 (nI (K p)) σ = some u := by
    intro z u u1
    have := hC.1
    unfold f_X3_clause_49 f_X3_clause_134
    rw [hC.2.1, if_neg (show ¬ (nI n < 24) from fun q => z ((nI_ltI (b := 24) (by omega) (by decide)).mp q)), u1, e_bndV]
  have hS42 : ∀ (r : PR) (τ : Sg) (lw s' : Nat) (dX : Nat → Nat × Nat), s' ≤ 300 → XTk τ K V P m → AS P m lw s' dX τ r → ∃ σ', f_X3_clause_128 τ = some σ' ∧ fr Srd τ σ' ∧ AS P m lw s' dX σ' (nxR (wdP K 42) r) := by
    intro r τ lw s' dX hs' x a
    obtain ⟨u, u1, u2, u3⟩ := as_wd 42 (by decide) t hs' x a
    have u1' : f_X3_take 42 τ = some u := u1
    refine ⟨u, ?_, u2, u3⟩
    unfold f_X3_clause_128 f_X3_clause_134
    rw [u1', e_bndV]
  have pm : ∀ f, K p = f → f ≤ 11 → p + 1 ≤ m := fun f e g => lt_m t e (by omega)
  by_cases k3 : K p < 3
  · have e3 : ¬ ((3 : Int32) ≤ nI (K p)) := nI_ge (b := 3) (by omega) (by omega)
    have eC : ∀ v, (σ.1 57 (K p) = v) → f_X3_clause σ = if v = -1 then f_X3_clause_49 (nI (K p)) σ else bndV (f_X3_fail 4 σ) fun σ23 => f_X3_clause_134 σ23 := by
      intro v hv
      unfold f_X3_clause
      rw [r4, kd, e_bnd, if_pos c11, if_neg e3, grd_of (by rw [e_inb (by omega) (by decide)]; rfl), e_ix (by omega), hv]
    rcases hL (K p) k3 with ⟨l1, l2⟩ | ⟨v0, s0, e0, l1, l2, l3, _⟩
    · have eC2 : f_X3_clause σ = f_X3_clause_49 (nI (K p)) σ := (eC _ l2).trans (if_pos rfl)
      by_cases n24 : n < 24
      · have e : clsP K V n (fun l => (Lw l).isSome) p = nxR (wdP K 42) (sumP K (OA K V (K p) 300 8).1 300 (p + 1)) := by
          unfold clsP
          rw [if_neg k11, if_neg (fun q => by have q2 : (Lw (K p)).isSome = true := q.2; rw [l1] at q2; exact absurd q2 (by decide)), if_neg (by omega), if_pos k3]
        have p1 := pm _ rfl (by omega)
        obtain ⟨τ, hτ⟩ : ∃ τ, τ = wI (wI (wI σ 49 4 (nI (p + 1))) 49 12 (nI (K p))) 57 (K p) (nI s) := ⟨_, rfl⟩
        have fτ : fr Scl σ τ := by
          rw [hτ]
          exact ((fr.w (by omega)).trans (fr.w (by omega))).trans (fr.w (by omega))
        have rτ : RSr τ (p + 1) s (K p) := by
          rw [hτ]
          refine ⟨?_, ?_, ?_, ?_, ?_⟩
          · rw [e_ne1 (by decide), e_ne2 (by decide), e_ne2 (by decide)]; exact hr.1
          · rw [e_ne1 (by decide), e_ne2 (by decide), e_ne2 (by decide)]; exact hr.2.1
          · rw [e_ne1 (by decide), e_ne2 (by decide), e_hit]
          · rw [e_ne1 (by decide), e_ne2 (by decide), e_ne2 (by decide)]; exact hr.2.2.2.1
          · rw [e_ne1 (by decide), e_hit]
        have cτ : XC τ cX s := by
          rw [hτ]
          intro j hj
          rw [e_ne1 (by decide), e_ne1 (by decide), e_ne1 (by decide), e_ne1 (by decide), e_ne1 (by decide), e_ne1 (by decide)]
          exact hc j hj
        have o57 : ∀ l, l ≠ K p → τ.1 57 l = σ.1 57 l := fun l h => by rw [hτ, e_ne2 h, e_ne1 (by decide), e_ne1 (by decide)]
        have h57 : τ.1 57 (K p) = nI s := by rw [hτ, e_hit]
        have o54 : ∀ j, τ.1 54 j = σ.1 54 j := fun j => by rw [hτ, e_ne1 (by decide), e_ne1 (by decide), e_ne1 (by decide)]
        have o58 : ∀ j, τ.1 58 j = σ.1 58 j := fun j => by rw [hτ, e_ne1 (by decide), e_ne1 (by decide), e_ne1 (by decide)]
        have o6 : τ.1 49 6 = nI n := by rw [hτ, e_ne1 (by decide), e_ne2 (by decide), e_ne2 (by decide)]; exact hC.2.1
        obtain ⟨u, u1, u2, u3, u4⟩ := x_law t k3 200 (by decide) τ (p + 1) s cX 0 rfl p1 (by omega) (hX.ofc fτ) rτ cτ
        obtain ⟨r, hrr⟩ : ∃ r, r = sumP K (OA K V (K p) 300 8).1 300 (p + 1) := ⟨_, rfl⟩
        rw [← hrr] at u3 u4 e
        have u1' : f_X3_sum 0 τ = some u := by
          have z : (0 : Int32) = nI 0 := rfl
          unfold f_X3_sum
          rw [z] at u1 ⊢
          exact u1
        have A1 : ∃ s' dX, s' ≤ 300 ∧ AS P m (K p) s' dX u r ∧ (r.1 = 0 → u.1 49 9 = nI s' ∧ s ≤ s' ∧ s' ≤ r.2.1 ∧ (∀ j, j < s → dX j = cX j) ∧ ∃ v, dep v ∧ GN r.2.2 v ∧ SEG dX s s' v) := by
          by_cases z : r.1 = 0
          · obtain ⟨a1, s', dX, a2, a3, a4, a5, a6, v, a7, a8, a9⟩ := u3 z
            exact ⟨s', dX, by omega, ⟨fun _ => ⟨a2, a1, a3⟩, fun q => absurd z q⟩, fun _ => ⟨a2.2.2.2.1, a4, by omega, a6, v, a7, a8, a9⟩⟩
          · exact ⟨s, cX, by omega, ⟨fun q => absurd q z, fun _ => u4 z⟩, fun q => absurd q z⟩
        obtain ⟨s', dX, A2, A3, A4⟩ := A1
        obtain ⟨u', hu'⟩ : ∃ u', u' = wI u 58 (K p) (u.1 49 9) := ⟨_, rfl⟩
        have fu' : fr (fun x j => x = 58 ∧ j = K p) u u' := by
          rw [hu']
          exact fr.w ⟨rfl, rfl⟩
        obtain ⟨w, w1, w2, w3, w4, w5, w6, w7⟩ := x_add (σ := u') n24 (by rw [fu'.1 _ _ (by omega), u2.1 _ _ (by omega)]; exact o6) (nI (K p)) (-1) (-1) (-1)
        have fw : fr Scl σ w := (((fτ.trans (u2.mono (fun x j q => by omega))).trans (fu'.mono (fun x j q => by omega))).trans (w2.mono (fun x j q => by omega)))
        obtain ⟨x, x1, x2, x3⟩ := hS42 r w (K p) s' dX A2 (hX.ofc fw) ((A3.ofS fu' (fun x j q => by omega)).of w2)
        have fx : fr Scl σ x := fw.trans (x2.mono (fun x j q => by omega))
        have ex : f_X3_clause σ = some x := by
          rw [eC2]
          unfold f_X3_clause_49
          rw [hC.2.1, if_pos (show nI n < 24 from nI_lt (b := 24) n24 (by decide)), r4, e_lt, show (nI p + 1) = nI (p + 1) from nI_add _ _, if_neg e3, e_lt, grd_of (by rw [e_inb (by omega) (by decide)]; rfl), e_ix (by omega), e_ne2 (by decide), e_ne2 (by decide), hr.2.2.2.1, e_lt, ← hτ, u1', e_bndV, grd_of (by rw [e_inb (by omega) (by decide)]; rfl), e_lt, ← hu', w1, e_bndV]
          exact x1
        rw [e]
        refine ⟨fun z => ?_, fun z => ⟨x, ex, fx, x3.2 z⟩⟩
        obtain ⟨z1, z2, z3⟩ := nx_ok z
        obtain ⟨b1, b2, b3, b4, v, b5, b6, b7⟩ := A4 z1
        obtain ⟨c1, c2, c3⟩ := x3.1 z
        have pay : (nxR (wdP K 42) r).2.2 = r.2.2 := by
          rw [z3, (wd_ok z2).1]
          exact List.append_nil _
        have pos : (nxR (wdP K 42) r).2.1 = r.2.1 + 1 := by
          rw [z3, (wd_ok z2).1]
        rw [pay]
        have ari0 : ari (K p) = 0 := if_pos k3
        have o2 : ∀ a j, ((a = 57 ∧ j ≠ K p) ∨ (a = 58 ∧ j ≠ K p)) → x.1 a j = σ.1 a j := by
          intro a j h
          rw [x2.1 _ _ (by omega), w2.1 _ _ (by omega), fu'.1 _ _ (by omega), u2.1 _ _ (by omega)]
          rcases h with ⟨rfl, h⟩ | ⟨rfl, h⟩
          · exact o57 j h
          · exact o58 j
        refine ⟨x, s', dX, upF Lw (K p) (some v), ex, fx, ⟨hX.ofc fx, ⟨K p, c1⟩, c2, by omega, c3, ?_, fun l hl => ?_⟩, fun _ => ⟨l1, v, b5, b6, rfl⟩, fun q => absurd k3 q⟩
        · refine hC.add n24 (fun k hk => ?_) ?_ ?_ (fun j hj => by rw [ari0] at hj; exact absurd hj (Nat.not_lt_zero _))
          · rw [x2.1 _ _ (by omega), w2.1 _ _ (by omega), fu'.1 _ _ (by omega), u2.1 _ _ (by omega)]
            exact o54 k
          · rw [x2.1 _ _ (by omega)]
            exact w3
          · rw [x2.1 _ _ (by omega)]
            exact w4
        · by_cases y : l = K p
          · rw [y, upF_hit]
            refine Or.inr ⟨v, s, s', rfl, by omega, ?_, ?_, Nat.le_refl _, b7⟩
            · rw [x2.1 _ _ (by omega), w2.1 _ _ (by omega), fu'.1 _ _ (by omega), u2.1 _ _ (by omega)]
              exact h57
            · rw [x2.1 _ _ (by omega), w2.1 _ _ (by omega), hu', e_hit]
              exact b1
          · rw [upF_ne y, o2 57 l (Or.inl ⟨rfl, y⟩), o2 58 l (Or.inr ⟨rfl, y⟩)]
            rcases hL l hl with g | ⟨v1, s1, e1, g1, g2, g3, g4, g5, g6⟩
            · exact Or.inl g
            · exact Or.inr ⟨v1, s1, e1, g1, g2, g3, g4, by omega, g6.congr (fun j _ hj => b4 j (by omega))⟩
      · refine bad 6 (by decide) (by decide) ?_ (fun u u1 => by rw [eC2]; exact h24 n24 u u1)
        unfold clsP
        rw [if_neg k11, if_neg (fun q => by have q2 : (Lw (K p)).isSome = true := q.2; rw [l1] at q2; exact absurd q2 (by decide)), if_pos (by omega)]
    · refine bad 4 (by decide) (by decide) ?_ (fun u u1 => ?_)
      · unfold clsP
        rw [if_neg k11, if_pos ⟨k3, by show (Lw (K p)).isSome = true; rw [l1]; rfl⟩]
      · have u1' : f_X3_fail 4 σ = some u := u1
        rw [eC _ l3, if_neg (fun q => nI_pos (n := s0) (by omega) (by rw [q]; decide)), u1', e_bndV]
        rfl
  · have e3 : (3 : Int32) ≤ nI (K p) := nI_le (a := 3) (by omega) (by omega)
    have eC : f_X3_clause σ = f_X3_clause_49 (nI (K p)) σ := by
      unfold f_X3_clause
      rw [r4, kd, e_bnd, if_pos c11, if_pos e3]
    by_cases n24 : n < 24
    · have e : clsP K V n (fun l => (Lw l).isSome) p = nxR (wdP K 42) (actP K V (K p) (p + 1)) := by
        unfold clsP
        rw [if_neg k11, if_neg (fun q => k3 q.1), if_neg (by omega), if_neg k3]
      have p1 := pm _ rfl (by omega)
      have fτ : fr Scl σ (wI σ 49 4 (nI (p + 1))) := fr.w (by omega)
      obtain ⟨u, u1, u2, u3, u4, u5⟩ := x_readAct (σ := wI σ 49 4 (nI (p + 1))) (n := n) (kd := K p) (V := V) (by omega) n24 (by rw [e_ne2 (by decide)]; exact hC.2.1) t (by omega) (hX.ofc fτ) hr.at p1 hc.w
      have fu : fr Scl σ u := fτ.trans (u2.mono (fun x j q => by omega))
      obtain ⟨x, x1, x2, x3⟩ := hS42 _ u lw0 s cX (by omega) (hX.ofc fu) u4
      have fx : fr Scl σ x := fu.trans (x2.mono (fun x j q => by omega))
      have ex : f_X3_clause σ = some x := by
        rw [eC]
        unfold f_X3_clause_49
        rw [hC.2.1, if_pos (show nI n < 24 from nI_lt (b := 24) n24 (by decide)), r4, e_lt, show (nI p + 1) = nI (p + 1) from nI_add _ _, if_pos e3, u1, e_bndV]
        exact x1
      rw [e]
      obtain ⟨r, hrr⟩ : ∃ r, r = actP K V (K p) (p + 1) := ⟨_, rfl⟩
      have ge := act_ge (K := K) (V := V) (kd := K p) (p := p + 1)
      rw [← hrr] at u5 x3 ge ⊢
      refine ⟨fun z => ?_, fun z => ⟨x, ex, fx, x3.2 z⟩⟩
      obtain ⟨z1, z2, z3⟩ := nx_ok z
      obtain ⟨c1, c2, c3⟩ := x3.1 z
      obtain ⟨d1, d2⟩ := u5 z1
      have ge1 := ge z1
      have pay : (nxR (wdP K 42) r).2.2 = r.2.2 := by
        rw [z3, (wd_ok z2).1]
        exact List.append_nil _
      have pos : (nxR (wdP K 42) r).2.1 = r.2.1 + 1 := by
        rw [z3, (wd_ok z2).1]
      rw [pay]
      have o2 : ∀ a j, (a = 57 ∨ a = 58 ∨ (a = 54 ∧ j < 4 * n)) → x.1 a j = σ.1 a j := by
        intro a j h
        rw [x2.1 _ _ (by omega), u2.1 _ _ (by omega), e_ne1 (by omega)]
      refine ⟨x, s, cX, Lw, ex, fx, ⟨hX.ofc fx, ⟨lw0, c1⟩, c2, by omega, c3, ?_, fun l hl => ?_⟩, fun q => absurd q k3, fun _ => rfl⟩
      · refine hC.add n24 (fun k hk => o2 54 k (Or.inr (Or.inr ⟨rfl, hk⟩))) ?_ ?_ (fun j hj => ?_)
        · rw [x2.1 _ _ (by omega)]
          exact u3
        · rw [x2.1 _ _ (by omega)]
          exact d1
        · rw [x2.1 _ _ (by omega)]
          exact d2 j hj
      · rw [o2 57 l (Or.inl rfl), o2 58 l (Or.inr (Or.inl rfl))]
        exact hL l hl
    · refine bad 6 (by decide) (by decide) ?_ (fun u u1 => by rw [eC]; exact h24 n24 u u1)
      unfold clsP
      rw [if_neg k11, if_neg (fun q => k3 q.1), if_pos (by omega)]
