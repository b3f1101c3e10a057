/-! METHODS: ring -/
def wS (w : Nat → Int32) (a : Nat) : Nat → Int32
  | 0 => 0
  | m + 1 => wS w a m + w ((a + m) % 24)
abbrev RS : Type := Nat × Nat × Int32
def rst (w : Nat → Int32) (m a : Nat) (q : RS) : RS := if q.2.1 = 0 ∨ wS w a m < q.2.2 then (a, m, wS w a m) else q
def rin (w : Nat → Int32) (m : Nat) (q : RS) : Nat → RS
  | 0 => q
  | i + 1 => rst w m i (rin w m q i)
/-- N is 24, kept as a name -/
def rou (w : Nat → Int32) (N : Nat) : Nat → RS
  | 0 => (0, 0, 0)
  | m + 1 => rin w (m + 1) (rou w N m) N
def rOK (q : RS) : Prop := q.1 < 24 ∧ q.2.1 < 24
theorem rst_ok {w : Nat → Int32} {m a : Nat} {q : RS} (h : rOK q) (hm : m < 24) (ha : a < 24) : rOK (rst w m a q) := by
  unfold rst
  split
  · exact ⟨ha, hm⟩
  · exact h
theorem rin_ok {w : Nat → Int32} {m : Nat} {q : RS} (h : rOK q) (hm : m < 24) : ∀ i, i ≤ 24 → rOK (rin w m q i)
  | 0, _ => h
  | i + 1, hi => rst_ok (rin_ok h hm i (by omega)) hm (by omega)
theorem rou_ok {w : Nat → Int32} {N : Nat} (hN : N = 24) : ∀ m, m < 24 → rOK (rou w N m)
  | 0, _ => ⟨(by decide : 0 < 24), (by decide : 0 < 24)⟩
  | m + 1, h => rin_ok (rou_ok hN m (by omega)) h N (by omega)
theorem rst_pos {w : Nat → Int32} {m a : Nat} {q : RS} (h : q.2.1 ≠ 0) (hm : m ≠ 0) : (rst w m a q).2.1 ≠ 0 := by
  unfold rst
  split
  · exact hm
  · exact h
theorem rin_pos {w : Nat → Int32} {m : Nat} {q : RS} (h : q.2.1 ≠ 0) (hm : m ≠ 0) : ∀ i, (rin w m q i).2.1 ≠ 0
  | 0 => h
  | i + 1 => rst_pos (rin_pos h hm i) hm
theorem rin_pos1 {w : Nat → Int32} {m : Nat} {q : RS} (hm : m ≠ 0) : ∀ i, (rin w m q (i + 1)).2.1 ≠ 0
  | 0 => by
    show (rst w m 0 q).2.1 ≠ 0
    unfold rst
    split
    · exact hm
    · rename_i h
      exact fun z => h (Or.inl z)
  | i + 1 => rst_pos (rin_pos1 hm i) hm
theorem rou_pos {w : Nat → Int32} {N : Nat} (hN : N = 24) (m : Nat) : (rou w N (m + 1)).2.1 ≠ 0 := by
  obtain ⟨k, hk⟩ : ∃ k, N = k + 1 := ⟨N - 1, by omega⟩
  have e : rou w N (m + 1) = rin w (m + 1) (rou w N m) N := rfl
  rw [e, hk]
  exact rin_pos1 (by omega) k
theorem rin_s (w : Nat → Int32) (m : Nat) (q : RS) (i : Nat) : rin w m q (i + 1) = rst w m i (rin w m q i) := rfl
theorem rst_1 {w : Nat → Int32} {m a : Nat} {q : RS} (h : q.2.1 = 0 ∨ wS w a m < q.2.2) : rst w m a q = (a, m, wS w a m) := if_pos h
theorem rst_0 {w : Nat → Int32} {m a : Nat} {q : RS} (h : q.2.1 ≠ 0) (h2 : ¬ wS w a m < q.2.2) : rst w m a q = q := if_neg (fun z => z.elim h h2)
/-- the sums of one round -/
def psum (σ : Sg) (w : Nat → Int32) (m : Nat) : Nat → Sg
  | 0 => σ
  | i + 1 => wI (psum σ w m i) 71 i (wS w i m)
theorem psum_fr {σ : Sg} {w : Nat → Int32} {m : Nat} : ∀ i, fr (fun a _ => a = 71) σ (psum σ w m i)
  | 0 => fr.rfl
  | i + 1 => (psum_fr i).trans (fr.w rfl)
theorem psum_in {σ : Sg} {w : Nat → Int32} {m : Nat} : ∀ i j, j < i → (psum σ w m i).1 71 j = wS w j m
  | 0, j, h => absurd h (by omega)
  | i + 1, j, h => by
    show (wI (psum σ w m i) 71 i (wS w i m)).1 71 j = _
    by_cases z : j = i
    · subst z; exact e_hit
    · rw [e_ne2 z]; exact psum_in i j (by omega)
theorem psum_out {σ : Sg} {w : Nat → Int32} {m : Nat} : ∀ i j, i ≤ j → (psum σ w m i).1 71 j = σ.1 71 j
  | 0, j, _ => rfl
  | i + 1, j, h => by
    show (wI (psum σ w m i) 71 i (wS w i m)).1 71 j = _
    rw [e_ne2 (by omega)]; exact psum_out i j (by omega)
theorem x_ring33 {w : Nat → Int32} {N : Nat} (hN : N = 24) (rec : Int32 → Int32 → Int32 → Int32 → Int32 → Sg → Option (Int32 × Sg)) {v : Int32} {m : Nat} (hm : 1 ≤ m ∧ m < 24) {q : RS} (hq : rOK q) {σ : Sg} (hw : ∀ h, h < 24 → σ.1 14 h = w h) (hs : 2 ≤ m → ∀ j, j < 24 → σ.1 71 j = wS w j (m - 1)) : f_X11_ring_33 rec FU v (nI q.1) (nI q.2.1) q.2.2 (nI m) (nI 0) σ = rec v (nI (rin w m q N).1) (nI (rin w m q N).2.1) (rin w m q N).2.2 (nI (m + 1)) (psum σ w m N) := by
  refine lp (fun fu (s : Int32 × Int32 × Int32 × Int32 × Sg) => f_X11_ring_33 rec fu v s.1 s.2.1 s.2.2.1 (nI m) s.2.2.2.1 s.2.2.2.2) (fun i => (nI (rin w m q i).1, nI (rin w m q i).2.1, (rin w m q i).2.2, nI i, psum σ w m i)) N (fun i hi fu => ?_) (fun fu => ?_) FU (by unfold FU; omega)
  · have hk := rin_ok (w := w) hq hm.2 i (by omega)
    obtain ⟨k1, k2⟩ := hk
    have hf := psum_fr (σ := σ) (w := w) (m := m) i
    have ho := psum_out (σ := σ) (w := w) (m := m) i i (Nat.le_refl _)
    have hps : psum σ w m (i + 1) = wI (psum σ w m i) 71 i (wS w i m) := rfl
    obtain ⟨s, hsd⟩ : ∃ s, s = psum σ w m i := ⟨_, rfl⟩
    rw [← hsd] at hf ho hps
    obtain ⟨qi, hqi⟩ : ∃ qi, qi = rin w m q i := ⟨_, rfl⟩
    rw [← hqi] at k1 k2
    have hwi : s.1 14 ((i + m - 1) % 24) = w ((i + (m - 1)) % 24) := by
      rw [hf.1 _ _ (by omega), hw _ (Nat.mod_lt _ (by decide)), show i + m - 1 = i + (m - 1) by omega]
    have hmd : (i + m - 1) % 24 < 24 := Nat.mod_lt _ (by decide)
    have hsum : wS w i m = wS w i (m - 1) + w ((i + (m - 1)) % 24) := by
      obtain ⟨m', rfl⟩ : ∃ m', m = m' + 1 := ⟨m - 1, by omega⟩
      rfl
    have key : ∀ (s0 : Int32), s0 = wS w i (m - 1) → f_X11_ring_57 (f_X11_ring_33 rec fu) v (nI qi.1) (nI qi.2.1) qi.2.2 (nI m) (nI i) s0 s = f_X11_ring_33 rec fu v (nI (rst w m i qi).1) (nI (rst w m i qi).2.1) (rst w m i qi).2.2 (nI m) (nI (i + 1)) (wI s 71 i (wS w i m)) := by
      intro s0 h0
      subst h0
      unfold f_X11_ring_57 f_X11_ring_98 f_X11_ring_108
      by_cases z : qi.2.1 = 0
      · rw [rst_1 (Or.inl z)]
        simp (disch := omega) only [e_bnd, e_bndV, e_lt, e_grd, e_lit, e_le1, e_le2, e_lt1, e_lt2, e_eq1, e_eq2, e_inb, e_ix, nI_add, pk_mul, e_sub, e_b0, e_b1, e_bz, e_bz0, e_bz1, Bool.and_true, Bool.true_and, ↓reduceIte, not_true_eq_false, not_false_eq_true, decide_false, decide_true, and_self, and_true, true_and, and_false, false_and, Bool.false_eq_true, Bool.not_false, Bool.not_true, rem_I, dz_I, hwi, ← hsum, z]
      · by_cases y : wS w i m < qi.2.2
        · rw [rst_1 (Or.inr y)]
          have y2 : ¬ qi.2.2 ≤ wS w i m := Int32.not_le.mpr y
          simp (disch := omega) only [e_bnd, e_bndV, e_lt, e_grd, e_lit, e_le1, e_le2, e_lt1, e_lt2, e_eq1, e_eq2, e_inb, e_ix, nI_add, pk_mul, e_sub, e_b0, e_b1, e_bz, e_bz0, e_bz1, Bool.and_true, Bool.true_and, ↓reduceIte, not_true_eq_false, not_false_eq_true, decide_false, decide_true, and_self, and_true, true_and, and_false, false_and, Bool.false_eq_true, Bool.not_false, Bool.not_true, rem_I, dz_I, hwi, ← hsum, y2]
        · rw [rst_0 z y]
          have y2 : qi.2.2 ≤ wS w i m := Int32.not_lt.mp y
          simp (disch := omega) only [e_bnd, e_bndV, e_lt, e_grd, e_lit, e_le1, e_le2, e_lt1, e_lt2, e_eq1, e_eq2, e_inb, e_ix, nI_add, pk_mul, e_sub, e_b0, e_b1, e_bz, e_bz0, e_bz1, Bool.and_true, Bool.true_and, ↓reduceIte, not_true_eq_false, not_false_eq_true, decide_false, decide_true, and_self, and_true, true_and, and_false, false_and, Bool.false_eq_true, Bool.not_false, Bool.not_true, rem_I, dz_I, hwi, ← hsum, y2]
    dsimp only
    rw [f_X11_ring_33, rin_s, hps, ← hsd, ← hqi]
    by_cases h1 : m = 1
    · have := key (nI 0) (by rw [h1]; rfl)
      subst h1
      simp (disch := omega) only [e_bnd, e_bndV, e_lt, e_grd, e_lit, e_le1, e_le2, e_lt1, e_lt2, e_eq1, e_eq2, e_inb, e_ix, nI_add, pk_mul, e_sub, e_b0, e_b1, e_bz, e_bz0, e_bz1, Bool.and_true, Bool.true_and, ↓reduceIte, not_true_eq_false, not_false_eq_true, decide_false, decide_true, and_self, and_true, true_and, and_false, false_and, Bool.false_eq_true, Bool.not_false, Bool.not_true]
      exact this
    · have hsi : s.1 71 i = wS w i (m - 1) := ho.trans (hs (by omega) i (by omega))
      have := key _ hsi
      simp (disch := omega) only [e_bnd, e_bndV, e_lt, e_grd, e_lit, e_le1, e_le2, e_lt1, e_lt2, e_eq1, e_eq2, e_inb, e_ix, nI_add, pk_mul, e_sub, e_b0, e_b1, e_bz, e_bz0, e_bz1, Bool.and_true, Bool.true_and, ↓reduceIte, not_true_eq_false, not_false_eq_true, decide_false, decide_true, and_self, and_true, true_and, and_false, false_and, Bool.false_eq_true, Bool.not_false, Bool.not_true]
      exact this
  · dsimp only
    rw [f_X11_ring_33]
    simp (disch := omega) only [e_bnd, e_bndV, e_lt, e_grd, e_lit, e_le1, e_le2, e_lt1, e_lt2, e_eq1, e_eq2, e_inb, e_ix, nI_add, pk_mul, e_sub, e_b0, e_b1, e_bz, e_bz0, e_bz1, Bool.and_true, Bool.true_and, ↓reduceIte, not_true_eq_false, not_false_eq_true, decide_false, decide_true, and_self, and_true, true_and, and_false, false_and, Bool.false_eq_true, Bool.not_false, Bool.not_true]
theorem m_ring48 {w : Nat → Int32} (rec : Int32 → Int32 → Int32 → Int32 → Int32 → Int32 → Sg → Option (Int32 × Sg)) {v : Int32} {m i : Nat} (hm : m < 24) (hi : i < 24) {f h l : Int32} {σ : Sg} (hw : ∀ h, h < 24 → σ.1 1 (114 + h) = w h) : f_X12_ring_48 rec FU v f h l (nI m) (nI i) (nI 0) (nI 0) σ = if wS w i m < l then rec v (nI i) (nI m) (wS w i m) (nI m) (nI (i + 1)) σ else rec v f h l (nI m) (nI (i + 1)) σ := by
  refine lp (fun fu (s : Int32 × Int32) => f_X12_ring_48 rec fu v f h l (nI m) (nI i) s.1 s.2 σ) (fun k => (wS w i k, nI k)) m (fun k hk fu => ?_) (fun fu => ?_) FU (by unfold FU; omega)
  · have hmod : (i + k) % 24 < 24 := Nat.mod_lt _ (by decide)
    have hwk := hw _ hmod
    dsimp only
    rw [f_X12_ring_48]
    simp (disch := omega) only [e_bnd, e_bndV, e_lt, e_grd, e_lit, e_le1, e_le2, e_lt1, e_lt2, e_eq1, e_eq2, e_inb, e_ix, nI_add, pk_mul, e_sub, e_b0, e_b1, e_bz, e_bz0, e_bz1, Bool.and_true, Bool.true_and, ↓reduceIte, not_true_eq_false, not_false_eq_true, decide_false, decide_true, and_self, and_true, true_and, and_false, false_and, Bool.false_eq_true, Bool.not_false, Bool.not_true, rem_I, dz_I, hwk]
    rfl
  · dsimp only
    rw [f_X12_ring_48]
    by_cases y : wS w i m < l
    · rw [if_pos y]
      simp (disch := omega) only [e_bnd, e_bndV, e_lt, e_grd, e_lit, e_le1, e_le2, e_lt1, e_lt2, e_eq1, e_eq2, e_inb, e_ix, nI_add, pk_mul, e_sub, e_b0, e_b1, e_bz, e_bz0, e_bz1, Bool.and_true, Bool.true_and, ↓reduceIte, not_true_eq_false, not_false_eq_true, decide_false, decide_true, and_self, and_true, true_and, and_false, false_and, Bool.false_eq_true, Bool.not_false, Bool.not_true, y, f_X12_ring_102]
    · rw [if_neg y]
      simp (disch := omega) only [e_bnd, e_bndV, e_lt, e_grd, e_lit, e_le1, e_le2, e_lt1, e_lt2, e_eq1, e_eq2, e_inb, e_ix, nI_add, pk_mul, e_sub, e_b0, e_b1, e_bz, e_bz0, e_bz1, Bool.and_true, Bool.true_and, ↓reduceIte, not_true_eq_false, not_false_eq_true, decide_false, decide_true, and_self, and_true, true_and, and_false, false_and, Bool.false_eq_true, Bool.not_false, Bool.not_true, y, f_X12_ring_102]
theorem m_ring1 {w : Nat → Int32} (rec : Int32 → Int32 → Int32 → Int32 → Int32 → Sg → Option (Int32 × Sg)) (fu : Nat) {v : Int32} {m i : Nat} (hm : m < 24) (hi : i < 24) {q : RS} (hp : q.2.1 ≠ 0) {σ : Sg} (hw : ∀ h, h < 24 → σ.1 1 (114 + h) = w h) : f_X12_ring_35 rec (fu + 1) v (nI q.1) (nI q.2.1) q.2.2 (nI m) (nI i) σ = f_X12_ring_35 rec fu v (nI (rst w m i q).1) (nI (rst w m i q).2.1) (rst w m i q).2.2 (nI m) (nI (i + 1)) σ := by
  have h48 := m_ring48 (f_X12_ring_35 rec fu) (v := v) (m := m) (i := i) hm hi (f := nI q.1) (h := nI q.2.1) (l := q.2.2) hw
  rw [f_X12_ring_35, if_neg (show ¬ (24 : Int32) ≤ nI i from nI_ge (b := 24) hi (by decide))]
  by_cases y : wS w i m < q.2.2
  · rw [if_pos y] at h48
    rw [rst_1 (Or.inr y)]
    exact h48
  · rw [if_neg y] at h48
    rw [rst_0 hp y]
    exact h48
theorem m_ring35 {w : Nat → Int32} {N : Nat} (hN : N = 24) (rec : Int32 → Int32 → Int32 → Int32 → Int32 → Sg → Option (Int32 × Sg)) {v : Int32} {m : Nat} (hm : 1 ≤ m ∧ m < 24) {q : RS} (hp : q.2.1 ≠ 0) {σ : Sg} (hw : ∀ h, h < 24 → σ.1 1 (114 + h) = w h) : f_X12_ring_35 rec FU v (nI q.1) (nI q.2.1) q.2.2 (nI m) (nI 0) σ = rec v (nI (rin w m q N).1) (nI (rin w m q N).2.1) (rin w m q N).2.2 (nI (m + 1)) σ := by
  refine lp (fun fu (s : Int32 × Int32 × Int32 × Int32) => f_X12_ring_35 rec fu v s.1 s.2.1 s.2.2.1 (nI m) s.2.2.2 σ) (fun i => (nI (rin w m q i).1, nI (rin w m q i).2.1, (rin w m q i).2.2, nI i)) N (fun i hi fu => ?_) (fun fu => ?_) FU (by unfold FU; omega)
  · have hpos := rin_pos (w := w) hp (show m ≠ 0 by omega) i
    dsimp only
    rw [rin_s]
    exact m_ring1 rec fu hm.2 (by omega) hpos hw
  · dsimp only
    rw [f_X12_ring_35]
    simp (disch := omega) only [e_bnd, e_bndV, e_lt, e_grd, e_lit, e_le1, e_le2, e_lt1, e_lt2, e_eq1, e_eq2, e_inb, e_ix, nI_add, pk_mul, e_sub, e_b0, e_b1, e_bz, e_bz0, e_bz1, Bool.and_true, Bool.true_and, ↓reduceIte, not_true_eq_false, not_false_eq_true, decide_false, decide_true, and_self, and_true, true_and, and_false, false_and, Bool.false_eq_true, Bool.not_false, Bool.not_true]
def q00 : RS := (0, 0, 0)
/-- the first round: nothing yet is as if all were too warm -/
theorem m_ring35a {w : Nat → Int32} {N : Nat} (hN : N = 24) (rec : Int32 → Int32 → Int32 → Int32 → Int32 → Sg → Option (Int32 × Sg)) {v : Int32} {σ : Sg} (hw : ∀ h, h < 24 → σ.1 1 (114 + h) = w h) (h0 : w 0 < nI 1000000) : f_X12_ring_35 rec FU v (nI 0) (nI 0) (nI 1000000) (nI 1) (nI 0) σ = rec v (nI (rin w 1 q00 N).1) (nI (rin w 1 q00 N).2.1) (rin w 1 q00 N).2.2 (nI 2) σ := by
  refine lp (fun fu (s : Int32 × Int32 × Int32 × Int32) => f_X12_ring_35 rec fu v s.1 s.2.1 s.2.2.1 (nI 1) s.2.2.2 σ) (fun i => if i = 0 then (nI 0, nI 0, nI 1000000, nI 0) else (nI (rin w 1 q00 i).1, nI (rin w 1 q00 i).2.1, (rin w 1 q00 i).2.2, nI i)) N (fun i hi fu => ?_) (fun fu => ?_) FU (by unfold FU; omega)
  · by_cases z : i = 0
    · subst z
      have h48 := m_ring48 (f_X12_ring_35 rec fu) (v := v) (m := 1) (i := 0) (by decide) (by decide) (f := nI 0) (h := nI 0) (l := nI 1000000) hw
      have hs : wS w 0 1 = w 0 := Int32.zero_add _
      rw [hs, if_pos h0] at h48
      have e : rin w 1 q00 (0 + 1) = (0, 1, w 0) := by
        rw [rin_s, ← hs]
        exact rst_1 (Or.inl rfl)
      rw [if_pos rfl, if_neg (by decide), e]
      dsimp only
      rw [f_X12_ring_35, if_neg (by decide)]
      exact h48
    · obtain ⟨k, rfl⟩ : ∃ k, i = k + 1 := ⟨i - 1, by omega⟩
      have hpos := rin_pos1 (w := w) (m := 1) (q := q00) (by decide) k
      rw [if_neg z, if_neg (by omega), rin_s w 1 q00 (k + 1)]
      dsimp only
      exact m_ring1 rec fu (by decide) (by omega) hpos hw
  · rw [if_neg (by omega)]
    dsimp only
    rw [f_X12_ring_35, if_pos (show (24 : Int32) ≤ nI N from nI_le (a := 24) (by omega) (by omega))]
    rfl
def rpick (n : Nat) (q : RS) : Int32 := if n = 0 then nI q.1 else if n = 1 then nI q.2.1 else q.2.2
theorem g_ring {κ : Kd} {T : TD} (v : Int32) : GO κ T (f_X11_ring v) (f_X12_ring v) := by
  intro σX σM ⟨A, B, I⟩
  obtain ⟨hwm, _⟩ := I.2.2.2.2.2.2.1
  obtain ⟨w, hw⟩ : ∃ w : Nat → Int32, w = fun h => σX.1 14 h := ⟨_, rfl⟩
  have wX : ∀ h, h < 24 → σX.1 14 h = w h := fun h hh => by rw [hw]
  have wM : ∀ h, h < 24 → σM.1 1 (114 + h) = w h := fun h hh => by rw [hw]; exact (hwm h hh).1.symm
  have h0 : w 0 < nI 1000000 := by
    obtain ⟨_, _, z, _⟩ := hwm 0 (by decide)
    rw [wX 0 (by decide)] at z
    rw [Int32.lt_iff_toInt_lt, nI_toInt (by decide)]
    unfold wOK at z
    omega
  unfold f_X11_ring f_X12_ring
  rcases rng v 0 2 (by decide) (by decide) with hn | ⟨n, _, hn, rfl⟩
  · refine I.q (r := -10000) ?_ ?_
    · simp (disch := omega) only [e_bnd, e_bndV, e_lt, e_grd, e_lit, e_le1, e_le2, e_lt1, e_lt2, e_eq1, e_eq2, e_inb, e_ix, nI_add, pk_mul, e_sub, e_b0, e_b1, e_bz, e_bz0, e_bz1, Bool.and_true, Bool.true_and, ↓reduceIte, not_true_eq_false, not_false_eq_true, decide_false, decide_true, and_self, and_true, true_and, and_false, false_and, Bool.false_eq_true, Bool.not_false, Bool.not_true, x_within, hn]
    · simp (disch := omega) only [e_bnd, e_bndV, e_lt, e_grd, e_lit, e_le1, e_le2, e_lt1, e_lt2, e_eq1, e_eq2, e_inb, e_ix, nI_add, pk_mul, e_sub, e_b0, e_b1, e_bz, e_bz0, e_bz1, Bool.and_true, Bool.true_and, ↓reduceIte, not_true_eq_false, not_false_eq_true, decide_false, decide_true, and_self, and_true, true_and, and_false, false_and, Bool.false_eq_true, Bool.not_false, Bool.not_true, m_isIn, hn]
  obtain ⟨N, hN⟩ : ∃ N, N = 24 := ⟨_, rfl⟩
  obtain ⟨M, hM23⟩ : ∃ M, M = 23 := ⟨_, rfl⟩
  have fin := rou_ok (w := w) hN M (by omega)
  have hX : ∃ σ', f_X11_ring_23 FU (nI n) (nI 0) (nI 0) (nI 0) (nI 1) σX = some (rpick n (rou w N M), σ') ∧ fr (fun a _ => a = 71) σX σ' := by
    refine lpI (fun fu (s : Int32 × Int32 × Int32 × Int32 × Sg) => f_X11_ring_23 fu (nI n) s.1 s.2.1 s.2.2.1 s.2.2.2.1 s.2.2.2.2)
      (fun i s => s.1 = nI (rou w N i).1 ∧ s.2.1 = nI (rou w N i).2.1 ∧ s.2.2.1 = (rou w N i).2.2 ∧ s.2.2.2.1 = nI (i + 1) ∧ (1 ≤ i → ∀ j, j < 24 → s.2.2.2.2.1 71 j = wS w j i) ∧ fr (fun a _ => a = 71) σX s.2.2.2.2)
      M (fun y => ∃ σ', y = some (rpick n (rou w N M), σ') ∧ fr (fun a _ => a = 71) σX σ')
      (fun i hi s hs => ?_) (fun s hs fu => ?_) FU (by unfold FU; omega) (nI 0, nI 0, nI 0, nI 1, σX) ⟨rfl, rfl, rfl, rfl, fun h => absurd h (by decide), fr.rfl⟩
    · obtain ⟨a1, a2, a3, a4, s⟩ := s
      dsimp only at hs
      obtain ⟨q1, q2, q3, q4, p1, p3⟩ := hs
      have e : rou w N (i + 1) = rin w (i + 1) (rou w N i) N := rfl
      refine ⟨(nI (rou w N (i + 1)).1, nI (rou w N (i + 1)).2.1, (rou w N (i + 1)).2.2, nI (i + 1 + 1), psum s w (i + 1) N), ⟨rfl, rfl, rfl, rfl, fun _ j hj => psum_in N j (by omega), p3.trans (psum_fr N)⟩, fun fu => ?_⟩
      dsimp only
      rw [q1, q2, q3, q4, f_X11_ring_23, if_neg (show ¬ (24 : Int32) ≤ nI (i + 1) from nI_ge (b := 24) (by omega) (by decide)), e]
      exact x_ring33 hN (f_X11_ring_23 fu) (by omega) (rou_ok hN i (by omega)) (fun h hh => by rw [p3.1 _ _ (by omega)]; exact wX h hh) (fun h j hj => p1 (by omega) j hj)
    · obtain ⟨a1, a2, a3, a4, s⟩ := s
      dsimp only at hs
      obtain ⟨q1, q2, q3, q4, p1, p3⟩ := hs
      refine ⟨s, ?_, p3⟩
      dsimp only
      rw [q1, q2, q3, q4, f_X11_ring_23, if_pos (show (24 : Int32) ≤ nI (M + 1) from nI_le (a := 24) (by omega) (by omega))]
      unfold f_X11_ring_139 rpick
      have : n = 0 ∨ n = 1 ∨ n = 2 := by omega
      rcases this with rfl | rfl | rfl
      · rfl
      · rfl
      · rfl
  have hMm : f_X12_ring_25 FU (nI n) (nI 0) (nI 0) (nI 1000000) (nI 1) σM = some (rpick n (rou w N M), σM) := by
    refine lp (fun fu (s : Int32 × Int32 × Int32 × Int32) => f_X12_ring_25 fu (nI n) s.1 s.2.1 s.2.2.1 s.2.2.2 σM) (fun i => if i = 0 then (nI 0, nI 0, nI 1000000, nI 1) else (nI (rou w N i).1, nI (rou w N i).2.1, (rou w N i).2.2, nI (i + 1))) M (fun i hi fu => ?_) (fun fu => ?_) FU (by unfold FU; omega)
    · have e : rou w N (i + 1) = rin w (i + 1) (rou w N i) N := rfl
      by_cases z : i = 0
      · subst z
        rw [if_pos rfl, if_neg (by decide), e]
        dsimp only
        rw [f_X12_ring_25, if_neg (by decide)]
        exact m_ring35a hN (f_X12_ring_25 fu) wM h0
      · obtain ⟨k, rfl⟩ : ∃ k, i = k + 1 := ⟨i - 1, by omega⟩
        rw [if_neg z, if_neg (by omega), e]
        dsimp only
        rw [f_X12_ring_25, if_neg (show ¬ (24 : Int32) ≤ nI (k + 1 + 1) from nI_ge (b := 24) (by omega) (by decide))]
        exact m_ring35 hN (f_X12_ring_25 fu) (by omega) (rou_pos hN k) wM
    · rw [if_neg (by omega)]
      dsimp only
      rw [f_X12_ring_25, if_pos (show (24 : Int32) ≤ nI (M + 1) from nI_le (a := 24) (by omega) (by omega))]
      unfold f_X12_ring_133 rpick
      have : n = 0 ∨ n = 1 ∨ n = 2 := by omega
      rcases this with rfl | rfl | rfl
      · rfl
      · rfl
      · rfl
  obtain ⟨x, h1, h2⟩ := hX
  refine ⟨rpick n (rou w N M), x, σM, ?_, ?_, A, B, I.scr (h2.mono (fun a j q => by omega)) fr.rfl⟩
  · simp (disch := omega) only [e_bnd, e_bndV, e_lt, e_grd, e_lit, e_le1, e_le2, e_lt1, e_lt2, e_eq1, e_eq2, e_inb, e_ix, nI_add, pk_mul, e_sub, e_b0, e_b1, e_bz, e_bz0, e_bz1, Bool.and_true, Bool.true_and, ↓reduceIte, not_true_eq_false, not_false_eq_true, decide_false, decide_true, and_self, and_true, true_and, and_false, false_and, Bool.false_eq_true, Bool.not_false, Bool.not_true, x_within]
    exact h1
  · simp (disch := omega) only [e_bnd, e_bndV, e_lt, e_grd, e_lit, e_le1, e_le2, e_lt1, e_lt2, e_eq1, e_eq2, e_inb, e_ix, nI_add, pk_mul, e_sub, e_b0, e_b1, e_bz, e_bz0, e_bz1, Bool.and_true, Bool.true_and, ↓reduceIte, not_true_eq_false, not_false_eq_true, decide_false, decide_true, and_self, and_true, true_and, and_false, false_and, Bool.false_eq_true, Bool.not_false, Bool.not_true, m_isIn]
    exact hMm
