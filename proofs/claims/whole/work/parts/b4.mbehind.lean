/-! text: the reference's sum, on: behind one; all steps -/
theorem btw_v {k : Nat} {q : List Nat} (h : btw k q ≠ 0) : (5 ≤ btw k q ∧ btw k q ≤ 8) ∨ (10 ≤ btw k q ∧ btw k q ≤ 15) ∨ btw k q = 21 ∨ btw k q = 22 := by
  unfold btw at h ⊢
  by_cases a : 36 ≤ k ∧ k ≤ 39
  · rw [if_pos a]
    omega
  rw [if_neg a] at h ⊢
  by_cases b : opn q ≠ 41
  · rw [if_pos b] at h
    exact absurd rfl h
  rw [if_neg b] at h ⊢
  by_cases c : cmpd q = false
  · rw [if_pos c] at h ⊢
    by_cases d : 30 ≤ k ∧ k ≤ 35
    · rw [if_pos d]
      omega
    · rw [if_neg d] at h
      exact absurd rfl h
  rw [if_neg c] at h ⊢
  by_cases d : k = 28
  · rw [if_pos d]
    omega
  rw [if_neg d] at h ⊢
  by_cases e : k = 29
  · rw [if_pos e]
    omega
  · rw [if_neg e] at h
    exact absurd rfl h
theorem prt_v {k : Nat} {q : List Nat} (h : prt k q ≠ 0) : opn q ≠ 0 ∧ (prt k q = 1 ∨ prt k q = 42 ∨ prt k q = 43) := by
  unfold prt at h ⊢
  by_cases a : opn q = 40
  · rw [if_pos a] at h ⊢
    by_cases b : k = 41
    · rw [if_pos b]
      omega
    · rw [if_neg b] at h
      exact absurd rfl h
  rw [if_neg a] at h ⊢
  by_cases a : opn q = 41
  · rw [if_pos a] at h ⊢
    by_cases b : k = 25 ∧ cmpd q = true
    · rw [if_pos b]
      omega
    · rw [if_neg b] at h
      exact absurd rfl h
  rw [if_neg a] at h ⊢
  by_cases a : opn q = 42
  · rw [if_pos a] at h ⊢
    by_cases b : k = 26
    · rw [if_pos b]
      omega
    · rw [if_neg b] at h
      exact absurd rfl h
  rw [if_neg a] at h ⊢
  by_cases a : opn q = 43
  · rw [if_pos a] at h ⊢
    by_cases b : k = 27
    · rw [if_pos b]
      omega
    · rw [if_neg b] at h
      exact absurd rfl h
  rw [if_neg a] at h
  exact absurd rfl h
theorem st1_head : ∀ (q : List Nat) (n : Nat) (c : List (Nat × Nat)), opn q ≠ 0 → ∃ o r, (stl 1 q n c).1 = o :: r ∧ 40 ≤ o
  | [], _, _, h => absurd rfl h
  | o :: q, n, c, h => by
    by_cases z : 1 ≤ rkO o
    · have o40 : o < 40 := by
        refine Nat.lt_of_not_le fun g => ?_
        have : rkO o = 0 := if_pos g
        omega
      rw [stl_hi z]
      exact st1_head q _ _ (by rw [opn_op o40] at h; exact h)
    · have e : stl 1 (o :: q) n c = (o :: q, n, c) := if_neg z
      rw [e]
      refine ⟨o, q, rfl, ?_⟩
      refine Nat.le_of_not_lt fun g => z ?_
      unfold rkO
      rw [if_neg (by omega)]
      repeat' split
      all_goals omega
theorem m_behOne {T P E K V : Nat → Nat} {L B lw p : Nat} (hnx : NX T P E K V L) (hK50 : ∀ j, K j ≤ 50) (hB : B + 705 ≤ 2820) (hp : p ≤ 300) {σ : Sg} {X : PS} (h : PMS T P E K V L σ B lw (true, p, X)) (hq : X.1.length ≤ 150) : ((bhd K p X).1 = 0 → ∃ σ', f_X12_behindOne σ = some (nI 1, σ') ∧ PMS T P E K V L σ' B lw (bhd K p X).2 ∧ fr Smp σ σ' ∧ frB B σ σ') ∧ ((bhd K p X).1 ≠ 0 → f_X12_behindOne σ = some (nI 0, σ)) := by
  obtain ⟨hT, hS, h14, h18, hl⟩ := h
  dsimp only at hT hS h18 hl
  have tm := hT.1
  have k50 := hK50 p
  have bt := m_btw tm k50 hS.2.2.1 hS.2.2.2.2.1 hq
  have on := m_openNow hS.2.2.1 hS.2.2.2.2.1 hq
  have pa := m_part tm k50 hS.2.2.1 hS.2.2.2.2.1 hq
  have ntS : ∀ τ, NT T P E K V L τ p → ∀ τ', fr Sst2 τ τ' → L2 τ τ' → NT T P E K V L τ' p := fun τ g τ' f l => g.of (fun j hj => f.1 _ _ (by omega)) (fun j => f.1 _ _ (by omega)) l
  unfold f_X12_behindOne bhd
  rw [bt, e_bnd]
  by_cases z : btw (K p) X.1 = 0
  · rw [if_pos z, if_pos (show (-1 : Int32) < 0 by decide), if_neg (show ¬ (btw (K p) X.1 ≠ 0) from fun g => g z), on, e_bnd]
    by_cases y : prt (K p) X.1 = 0
    · rw [if_pos y] at pa
      rw [pa, e_bnd, if_neg (show ¬ ((0 : Int32) ≤ -1) by decide), if_pos y]
      by_cases x : opn X.1 = 0
      · rw [if_pos x]
        exact ⟨fun q => absurd (show (1 : Nat) = 0 from q) (by decide), fun _ => rfl⟩
      · rw [if_neg x]
        exact ⟨fun q => absurd (show (11 : Nat) = 0 from q) (by decide), fun _ => rfl⟩
    · obtain ⟨on0, pv⟩ := prt_v y
      obtain ⟨u, u1, u2, u3, u4, u5⟩ := m_settle (l := 1) hB (by decide) hS (by omega) hq
      have u1' : f_X12_settle 1 σ = some u := u1
      obtain ⟨w, w1, w2, w3⟩ := hnx u p (ntS σ hT u u2 u5)
      obtain ⟨o, r, hr, ho⟩ := st1_head X.1 X.2.1 X.2.2 on0
      have hr' : (st 1 X).1 = o :: r := hr
      have ln := stl_len (l := 1) X.1 X.2.1 X.2.2
      change (st 1 X).1.length + (st 1 X).2.2.length = _ at ln
      have le := len_stl (l := 1) X.1 X.2.1 X.2.2
      change (st 1 X).1.length ≤ _ at le
      obtain ⟨a1, a2, a3, a4, a5, a6, a7⟩ := u4
      rw [hr'] at a3 a5 a7 ln le
      simp only [List.length_cons] at a3 ln le
      have oco : oc (o :: r) = 1 + oc r := by
        show (if rkO o = 7 ∨ o = 20 ∨ 40 ≤ o then 1 else 0) + oc r = _
        rw [if_pos (Or.inr (Or.inr ho))]
      have ocb : oc r ≤ 300 := by
        have : ∀ q : List Nat, oc q ≤ q.length := by
          intro q
          induction q with
          | nil => exact Nat.le_refl _
          | cons a q ih =>
            show (if _ then 1 else 0) + oc q ≤ q.length + 1
            split <;> omega
        have := this r
        omega
      have fw : fr Smp σ w := (u2.mono (fun x j q => by omega)).trans (w3.mono (fun x j q => by omega))
      have fBw : frB B σ w := fun j hj => by rw [w3.1 _ _ (by omega)]; exact u3 j hj
      rw [if_neg y] at pa
      by_cases x : prt (K p) X.1 = 1
      · rw [if_pos x] at pa
        rw [pa, e_bnd, if_pos (show (0 : Int32) ≤ nI 0 by decide), u1', e_bndV, w1, e_bndV, if_pos (show nI 0 ≤ 0 by decide), if_neg y, if_pos x, if_neg on0]
        refine ⟨fun _ => ?_, fun q => absurd rfl q⟩
        have w17 : w.1 0 17 = nI (1 + oc r) := by rw [w3.1 _ _ (by omega), a4, a7, oco]
        have w16 : w.1 0 16 = nI (r.length + 1) := by rw [w3.1 _ _ (by omega)]; exact a3
        rw [e_lt, w17, show (nI (1 + oc r) - 1) = nI (oc r) by rw [Nat.add_comm, sub1, dec1], e_lt, e_ne2 (by decide), w16, show (nI (r.length + 1) - 1) = nI r.length by rw [sub1, dec1]]
        have S1 : SET (wI (wI w 0 17 (nI (oc r))) 0 16 (nI r.length)) B (r, oc r, (st 1 X).2.2) := ⟨by rw [e_ne2 (by decide), e_ne2 (by decide), w3.1 _ _ (by omega)]; exact a1, by rw [e_ne2 (by decide), e_ne2 (by decide), w3.1 _ _ (by omega)]; exact a2, e_hit, by rw [e_ne2 (by decide), e_hit], a5.2.2.of (fun j hj => by rw [e_ne1 (by decide), e_ne1 (by decide), w3.1 _ _ (by omega)]), a6.of (fun j _ _ => by rw [e_ne1 (by decide), e_ne1 (by decide), w3.1 _ _ (by omega)]), rfl⟩
        have w2' : NT T P E K V L (wI (wI w 0 17 (nI (oc r))) 0 16 (nI r.length)) (p + 1) := w2.of (fun j hj => by rw [e_ne2 (by omega), e_ne2 (by omega)]) (fun j => by rw [e_ne1 (by decide), e_ne1 (by decide)]) rfl
        have f1 : fr Smp σ (wI (wI w 0 17 (nI (oc r))) 0 16 (nI r.length)) := (fw.trans (fr.w (by omega))).trans (fr.w (by omega))
        have fB1 : frB B σ (wI (wI w 0 17 (nI (oc r))) 0 16 (nI r.length)) := fun j hj => by rw [e_ne1 (by decide), e_ne1 (by decide)]; exact fBw j hj
        have S18 : (wI (wI w 0 17 (nI (oc r))) 0 16 (nI r.length)).1 0 18 = nI 1 := by rw [e_ne2 (by decide), e_ne2 (by decide), w3.1 _ _ (by omega), u2.1 _ _ (by omega), h18]; rfl
        have tl : (st 1 X).1.tail = r := by rw [hr']; rfl
        have ne1 : (st 1 X).2.1 - 1 = oc r := by rw [a7, oco]; omega
        rw [tl, ne1]
        have fin : ∀ (τ : Sg) (c : List (Nat × Nat)), SET τ B (r, oc r, c) → NT T P E K V L τ (p + 1) → fr Smp σ τ → frB B σ τ → c.length + r.length ≤ p + 1 → τ.1 0 18 = nI 1 → ∃ σ', f_X12_behindOne_121 τ = some (nI 1, σ') ∧ PMS T P E K V L σ' B lw (true, p + 1, stl 7 r (oc r) c) ∧ fr Smp σ σ' ∧ frB B σ σ' := by
          intro τ c t1 t2 t3 t4 t5 t6
          obtain ⟨s, s1, s2, s3, s4, s5⟩ := m_settle (l := 7) hB (by decide) t1 (by show c.length + r.length ≤ 304; omega) (by show r.length ≤ 150; omega)
          have s1' : f_X12_settle 7 τ = some s := s1
          refine ⟨s, ?_, ⟨t2.of (fun j hj => s2.1 _ _ (by omega)) (fun j => s2.1 _ _ (by omega)) s5, s4, ?_, ?_, ?_⟩, t3.trans (s2.mono (fun x j q => by omega)), t4.trans s3⟩
          · unfold f_X12_behindOne_121
            rw [s1', e_bndV]
            rfl
          · rw [s2.1 _ _ (by omega), t3.1 _ _ (by omega)]
            exact h14
          · rw [s2.1 _ _ (by omega), t6]
            rfl
          · have := stl_len (l := 7) r (oc r) c
            show (stl 7 r (oc r) c).2.2.length + (stl 7 r (oc r) c).1.length ≤ p + 1
            omega
        by_cases q43 : opn X.1 = 43
        · rw [if_pos (show nI (opn X.1) = 43 by rw [q43]; rfl), if_pos q43]
          obtain ⟨v, v1, v2, v3, v4⟩ := m_emit (o := 3) (a := 0) S1.1 S1.2.1 S1.2.2.2.2.2.1 (by show B + 97 + 2 * (st 1 X).2.2.length + 1 < 2820; omega) (by decide)
          have v1' : f_X12_emit 3 0 (wI (wI w 0 17 (nI (oc r))) 0 16 (nI r.length)) = some v := v1
          rw [v1', e_bndV]
          refine fin v ((st 1 X).2.2 ++ [(3, 0)]) ⟨?_, ?_, ?_, ?_, ?_, v4, rfl⟩ (w2'.of (fun j hj => v2.1 _ _ (by omega)) (fun j => v2.1 _ _ (by omega)) (emit_L v1)) (f1.trans (v2.mono (fun x j q => by omega))) (fun j hj => ?_) ?_ ?_
          · rw [v2.1 _ _ (by omega)]; exact S1.1
          · rw [List.length_append]; exact v3
          · rw [v2.1 _ _ (by omega)]; exact S1.2.2.1
          · rw [v2.1 _ _ (by omega)]; exact S1.2.2.2.1
          · exact S1.2.2.2.2.1.of (fun j hj => v2.1 _ _ (by omega))
          · dsimp only at v2
            rw [v2.1 _ _ (by omega)]; exact fB1 j hj
          · rw [List.length_append]
            simp only [List.length_cons, List.length_nil]
            omega
          · rw [v2.1 _ _ (by omega)]; exact S18
        · rw [if_neg (show ¬ (nI (opn X.1) = 43) from fun g => by
            rcases opI_spec X.1 σ hS.2.2.2.2.1 hq with ⟨b1, _⟩ | ⟨b1, b2, _⟩
            · exact on0 b1
            · exact q43 ((nI_eq (b := 43) (by omega) (by decide)).mp g)), if_neg q43, List.append_nil]
          exact fin _ _ S1 w2' f1 fB1 (by omega) S18
      · have p42 : prt (K p) X.1 = 42 ∨ prt (K p) X.1 = 43 := by omega
        rw [if_neg x] at pa
        rw [pa, e_bnd, if_pos (nI_pos' (n := prt (K p) X.1) (by omega)), u1', e_bndV, w1, e_bndV, if_neg (show ¬ (nI (prt (K p) X.1) ≤ 0) from nI_ge (a := 0) (by omega) (by omega)), if_neg y, if_neg x]
        refine ⟨fun _ => ?_, fun q => absurd rfl q⟩
        have w16 : w.1 0 16 = nI (o :: r).length := by rw [w3.1 _ _ (by omega)]; exact a3
        have wP : PLK w (o :: r) := a5.of (fun j hj => w3.1 _ _ (by omega))
        have oa := m_openAt w16 wP (by simp only [List.length_cons]; omega)
        have oi : opI (o :: r) = nI r.length := if_pos ho
        rw [oa, e_bnd, oi, grd_of (by rw [e_inb (by omega) (by decide)]; rfl), e_lt, e_ix (by omega), grd_of (by decide), e_lt]
        refine ⟨_, rfl, ⟨w2.of (fun j hj => by rw [e_ne2 (by omega), e_ne1 (by decide)]) (fun j => by rw [e_ne1 (by decide), e_ne1 (by decide)]) rfl, ?_, ?_, ?_, ?_⟩, (fw.trans (fr.w (by omega))).trans (fr.w (by omega)), fun j hj => by rw [e_ne1 (by decide), e_ne1 (by decide)]; exact fBw j hj⟩
        · rw [hr', setO_hi ho]
          refine ⟨?_, ?_, ?_, ?_, ⟨?_, by omega, a5.2.2.of (fun j hj => ?_)⟩, a6.of (fun j _ _ => ?_), ?_⟩
          · rw [e_ne2 (by decide), e_ne1 (by decide), w3.1 _ _ (by omega)]; exact a1
          · rw [e_ne2 (by decide), e_ne1 (by decide), w3.1 _ _ (by omega)]; exact a2
          · rw [e_ne2 (by decide), e_ne1 (by decide)]; exact w16
          · rw [e_ne2 (by decide), e_ne1 (by decide), w3.1 _ _ (by omega)]; exact a4
          · rw [e_ne1 (by decide), e_hit]
          · rw [e_ne1 (by decide), e_ne2 (by omega), w3.1 _ _ (by omega)]
          · rw [e_ne1 (by decide), e_ne1 (by decide), w3.1 _ _ (by omega)]
          · show (st 1 X).2.1 = (if rkO (prt (K p) X.1) = 7 ∨ prt (K p) X.1 = 20 ∨ 40 ≤ prt (K p) X.1 then 1 else 0) + oc r
            rw [if_pos (by omega), a7, oco]
        · rw [e_ne2 (by decide), e_ne1 (by decide), fw.1 _ _ (by omega)]; exact h14
        · rw [e_hit]; rfl
        · show (st 1 X).2.2.length + (setO (prt (K p) X.1) (st 1 X).1).length ≤ p + 1
          rw [hr', setO_hi ho]
          simp only [List.length_cons]
          omega
  · have bv := btw_v z
    rw [if_neg z, if_neg (nI_pos (by omega)), m_rank (by omega), e_bnd, if_pos z]
    obtain ⟨b, hb⟩ : ∃ b, b = btw (K p) X.1 := ⟨_, rfl⟩
    rw [← hb] at bv z ⊢
    have b7 : rkO b ≤ 7 ∧ 1 ≤ rkO b ∧ rkO b ≠ 7 := by
      unfold rkO
      rw [if_neg (by omega)]
      repeat' split
      all_goals omega
    have go : ∀ l, 1 ≤ l ∧ l ≤ 7 → ∃ σ', f_X12_behindOne_26 (nI b) (nI l) σ = some (nI 1, σ') ∧ PMS T P E K V L σ' B lw (false, p + 1, b :: (st l X).1, (st l X).2) ∧ fr Smp σ σ' ∧ frB B σ σ' := by
      intro l hl2
      obtain ⟨u, u1, u2, u3, u4, u5⟩ := m_settle hB hl2 hS (by omega) hq
      have ln := stl_len (l := l) X.1 X.2.1 X.2.2
      change (st l X).1.length + (st l X).2.2.length = _ at ln
      have le := len_stl (l := l) X.1 X.2.1 X.2.2
      change (st l X).1.length ≤ _ at le
      obtain ⟨w, w1, w2, w3, w4, w5, w6, w7⟩ := m_waitsP (w := false) (o := b) hnx (ntS σ hT u u2 u5) u4 (by rw [u2.1 _ _ (by omega)]; exact h14) (p := p) (by omega) (by omega) (by omega)
      refine ⟨wI w 0 18 0, ?_, ⟨w2.of (fun j hj => e_ne2 (by omega)) (fun j => e_ne1 (by decide)) rfl, ?_, by rw [e_ne2 (by decide)]; exact w4, by rw [e_hit]; rfl, ?_⟩, (((u2.mono (fun x j q => by omega)).trans w6).trans (fr.w (by omega))), (u3.trans w7).trans (fun j _ => e_ne1 (by decide))⟩
      · unfold f_X12_behindOne_26
        rw [u1, e_bndV, w1, e_bnd, grd_of (by decide), e_lt]
        rfl
      · obtain ⟨c1, c2, c3, c4, c5, c6, c7⟩ := w3
        exact ⟨by rw [e_ne2 (by decide)]; exact c1, by rw [e_ne2 (by decide)]; exact c2, by rw [e_ne2 (by decide)]; exact c3, by rw [e_ne2 (by decide)]; exact c4, c5.of (fun j hj => e_ne1 (by decide)), c6.of (fun j _ _ => e_ne1 (by decide)), c7⟩
      · show (st l X).2.2.length + ((st l X).1.length + 1) ≤ p + 1
        omega
    by_cases y : rkO b = 4
    · rw [if_pos (show nI (rkO b) = 4 by rw [y]; rfl), if_pos y]
      exact ⟨fun _ => go 5 (by decide), fun q => absurd rfl q⟩
    · rw [if_neg (show ¬ (nI (rkO b) = 4) from fun g => y ((nI_eq (b := 4) (by omega) (by decide)).mp g)), m_rank (by omega), e_bnd, if_neg y]
      exact ⟨fun _ => go (rkO b) (by omega), fun q => absurd rfl q⟩
