/-! the string literals: their fields, bytes; the static fields that String's methods ask -/
def chz (x : Int32) : Bool := decide (narrow .char (.int x) = .int x)
def byz (x : Int32) : Bool := decide (narrow .byte (.int x) = .int x)
section STR
variable {κ : Kd} {P : AP} {d pc : Nat} {out : Out} {L : List (Option AV)} {r stk : List AV} {σ : Sg}
theorem aw_ldcS (j : Nat) {idx : Nat} (hj : j < 6) (ho : P.1.cls = RX7) (hi : ixS.getD j 0 = idx) (hd : decode P.2.1 pc = .ok (.ldc idx, 2)) (k : AW κ P d out (pc + 2) L (aR 20 j (SB + j) :: r) σ) : AW κ P d out pc L r σ :=
  aw_step (pc' := pc + 2) (L' := L) (stk' := aR 20 j (SB + j) :: r) (σ' := σ) (fun hP hR ok => ⟨fun l p e s m args below meth c D ids ad A H locs ls Q F hW hD hS hl0 kk => by
    obtain ⟨hx, hb, hrr, hml, hown, hts, hlk, hK, hA⟩ := F
    subst hi
    exact va_ldcS hx hb (by rw [← ho]; exact hown) (hA.2.2.2.1 j hj) hd (kk H locs ls hW hD hS hl0), ok.1, ok.2.1, okc (okv_lit (c := 20) (n := j) (by decide) hj) ok.2.2⟩) k
theorem aw_strValue {idx n k : Nat} (hl : Cond.fieldLink P.1.cls idx "java/lang/String" "value" "[B" ∈ WS) (hd : decode P.2.1 pc = .ok (.getfield idx, 3)) (kk : AW κ P d out (pc + 3) L (aR 21 n (SV + n) :: r) σ) : AW κ P d out pc L (aR 20 n k :: r) σ :=
  aw_step (pc' := pc + 3) (L' := L) (stk' := aR 21 n (SV + n) :: r) (σ' := σ) (fun hP hR ok => by
    obtain ⟨hn6, hkk⟩ := okv_str (okd ok.2.2).1 (by decide)
    have hkk : k = SB + n := hkk
    subst hkk
    refine ⟨fun l p e s m args below meth c D ids ad A H locs ls Q F hW hD hS hl0 kk => ?_, ok.1, ok.2.1, okc (okv_lit (c := 21) (n := n) (by decide) hn6) (okd ok.2.2).2⟩
    obtain ⟨hx, hb, hrr, hml, hown, hts, hlk, hK, hA⟩ := F
    exact vk_getf hx hb (hA.2.2.1.1 n hn6).2.2.1 hS hown (hts _ (List.mem_cons_of_mem _ hl)) (fun _ h9 => h9) hd (kk H locs ls hW hD hS hl0)) kk
theorem aw_strCoder {idx n k : Nat} (hl : Cond.fieldLink P.1.cls idx "java/lang/String" "coder" "B" ∈ WS) (hd : decode P.2.1 pc = .ok (.getfield idx, 3)) (kk : AW κ P d out (pc + 3) L (aI 0 :: r) σ) : AW κ P d out pc L (aR 20 n k :: r) σ :=
  aw_step (pc' := pc + 3) (L' := L) (stk' := aI 0 :: r) (σ' := σ) (fun hP hR ok => by
    obtain ⟨hn6, hkk⟩ := okv_str (okd ok.2.2).1 (by decide)
    have hkk : k = SB + n := hkk
    subst hkk
    refine ⟨fun l p e s m args below meth c D ids ad A H locs ls Q F hW hD hS hl0 kk => ?_, ok.1, ok.2.1, okc trivial (okd ok.2.2).2⟩
    obtain ⟨hx, hb, hrr, hml, hown, hts, hlk, hK, hA⟩ := F
    exact vk_getf hx hb (hA.2.2.1.1 n hn6).2.1 hS hown (hts _ (List.mem_cons_of_mem _ hl)) (fun _ h9 => h9) hd (kk H locs ls hW hD hS hl0)) kk
theorem aw_strLen {n k : Nat} (hd : decode P.2.1 pc = .ok (.arraylength, 1)) (kk : AW κ P d out (pc + 1) L (aI (Int32.ofNat (lenS.getD n 0)) :: r) σ) : AW κ P d out pc L (aR 21 n k :: r) σ :=
  aw_step (pc' := pc + 1) (L' := L) (stk' := aI (Int32.ofNat (lenS.getD n 0)) :: r) (σ' := σ) (fun hP hR ok => by
    obtain ⟨hn6, hkk⟩ := okv_str (okd ok.2.2).1 (by decide)
    have hkk : k = SV + n := hkk
    subst hkk
    refine ⟨fun l p e s m args below meth c D ids ad A H locs ls Q F hW hD hS hl0 kk => ?_, ok.1, ok.2.1, okc trivial (okd ok.2.2).2⟩
    obtain ⟨hx, hb, hrr, hml, hown, hts, hlk, hK, hA⟩ := F
    exact va_tlen hx hb (hA.2.2.1.1 n hn6).2.2.2 hS rfl hd (kk H locs ls hW hD hS hl0)) kk
theorem aw_strByte {n k : Nat} {i : Int32} (hg : inb i (lenS.getD n 0) = true) (hd : decode P.2.1 pc = .ok (.baload, 1)) (kk : AW κ P d out (pc + 1) L (aI ((bytS.getD n []).getD (ix i) 0) :: r) σ) : AW κ P d out pc L (aI i :: aR 21 n k :: r) σ :=
  aw_step (pc' := pc + 1) (L' := L) (stk' := aI ((bytS.getD n []).getD (ix i) 0) :: r) (σ' := σ) (fun hP hR ok => by
    obtain ⟨hn6, hkk⟩ := okv_str (okd (okd ok.2.2).2).1 (by decide)
    have hkk : k = SV + n := hkk
    subst hkk
    refine ⟨fun l p e s m args below meth c D ids ad A H locs ls Q F hW hD hS hl0 kk => ?_, ok.1, ok.2.1, okc trivial (okd (okd ok.2.2).2).2⟩
    obtain ⟨hx, hb, hrr, hml, hown, hts, hlk, hK, hA⟩ := F
    exact va_tb hx hb (hA.2.2.1.1 n hn6).2.2.2 hS (inb_in hg) rfl hd (kk H locs ls hW hD hS hl0)) kk
theorem aw_compact {idx : Nat} (hl : Cond.fieldLink P.1.cls idx "java/lang/String" "COMPACT_STRINGS" "Z" ∈ WS) (hd : decode P.2.1 pc = .ok (.getstatic idx, 3)) (k : AW κ P d out (pc + 3) L (aI 1 :: r) σ) : AW κ P d out pc L r σ :=
  aw_step (pc' := pc + 3) (L' := L) (stk' := aI 1 :: r) (σ' := σ) (fun hP hR ok => ⟨fun l p e s m args below meth c D ids ad A H locs ls Q F hW hD hS hl0 kk => by
    obtain ⟨hx, hb, hrr, hml, hown, hts, hlk, hK, hA⟩ := F
    exact va_gets hx hb hA.2.2.2.2.1 hS hown (hts _ (List.mem_cons_of_mem _ hl)) (fun _ h9 => h9) hd (kk H locs ls hW hD hS hl0), ok.1, ok.2.1, okc trivial ok.2.2⟩) k
theorem aw_sioobe {idx : Nat} (hl : Cond.fieldLink P.1.cls idx "jdk/internal/util/Preconditions" "SIOOBE_FORMATTER" "Ljava/util/function/BiFunction;" ∈ WS) (hd : decode P.2.1 pc = .ok (.getstatic idx, 3)) (k : AW κ P d out (pc + 3) L (aR 22 0 SF :: r) σ) (k2 : AW κ P d out (pc + 3) L (aN :: r) σ) : AW κ P d out pc L r σ := by
  intro hP hR h1 h2 h3
  obtain ⟨a, b⟩ := k hP hR h1 h2 (okc (okv_lit (c := 22) (n := 0) (by decide) (by decide)) h3)
  obtain ⟨_, b2⟩ := k2 hP hR h1 h2 (okc trivial h3)
  refine ⟨a, fun l p e s m args below meth c D ids ad A H locs ls F hW hD hS hl0 => ?_⟩
  have F0 := F
  obtain ⟨hx, hb, hrr, hml, hown, hts, hlk, hK, hA⟩ := F
  rcases hA.2.2.2.2.2 with z | z
  · exact va_gets hx hb z hS hown (hts _ (List.mem_cons_of_mem _ hl)) (fun _ h9 => h9) hd (b2 l p e s m args below meth c D ids ad A H locs ls F0 hW hD hS hl0)
  · exact va_gets hx hb z hS hown (hts _ (List.mem_cons_of_mem _ hl)) (fun _ h9 => h9) hd (b l p e s m args below meth c D ids ad A H locs ls F0 hW hD hS hl0)
end STR
