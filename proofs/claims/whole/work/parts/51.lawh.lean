/-! the law's cases: two calls, one answer (printed by wip/whole/gen_law.py) -/
def LC (p : Program) (s : State) (m : MethodId) (args : Array Value) (c : Code) (D : va_G) (ids : Ids) (A : Nat → Prop) (b L : Nat) (xs : Nat → Int32) : Prop :=
  p.tables.exec = Jvm.exec ∧ c.code = code ∧ c.maxLocals = 4 ∧ s.vm.findClass RL = some m.cls ∧ (∀ w ∈ lw_tbl, w.before args s = true) ∧ va_K D acl (atys ids) s ∧ (∀ q, s.heap.size ≤ q → A q) ∧ va_X b L xs s s.heap ∧ b < s.heap.size ∧ ¬ A b
def LW (s : State) (D : va_G) (ids : Ids) (A : Nat → Prop) (aX aM : Nat → Nat) (κ : Kd) (σX σM : Sg) (H : Heap) (locs : List Loc) : Prop :=
  va_P D acl (aW ids aX κ σX) H ∧ va_P D acl (aW ids aM κM σM) H ∧ va_D A (aW ids aX κ σX) ∧ va_D A (aW ids aM κM σM) ∧ apart2 (aW ids aX κ σX) (aW ids aM κM σM) ∧ va_S A s.heap H locs ∧ XK aX A s s.heap ∧ XK aM A s s.heap ∧ Reg κ ∧ okσ κ σX ∧ okσ κM σM ∧ κ[0]? = some (11, 0)
def zb (a : Int32) : Int32 := if a = 0 then 0 else 1
def lq (len : Option Nat) (n : Nat) : Bool := match len with
  | some m => Nat.beq n m
  | none => true
theorem regM : Reg κM := by
  intro k c n hk hc j off code len hf
  have h1 : ∀ k, k < 15 → ∀ q, κM[k]? = some q → q.1 < 13 → k = 0 ∧ q.1 = 12 := by decide +kernel
  have hl : k < 15 := by
    have := (List.getElem?_eq_some_iff.mp hk).1
    exact this
  obtain ⟨rfl, hq⟩ := h1 k hl (c, n) hk hc
  dsimp only at hq
  subst hq
  have h2 : (flds 12).all (fun f => !Nat.beq f.1 2 || (match κM[0 + f.2.1]? with | some q => Nat.beq q.1 f.2.2.1 && Nat.blt f.2.2.1 20 && lq f.2.2.2 q.2 | none => false)) = true := by decide +kernel
  have h3 := List.all_eq_true.mp h2 _ (List.mem_of_getElem? hf)
  dsimp only at h3
  cases hq : κM[0 + off]? with
  | none => rw [hq] at h3; simp at h3
  | some q =>
    rw [hq] at h3
    obtain ⟨q1, q2⟩ := q
    have h4 : ((Nat.beq q1 code && Nat.blt code 20) && lq len q2) = true := by
      rcases Bool.or_eq_true _ _ |>.mp h3 with h | h
      · exact absurd h (by decide)
      · exact h
    rw [Bool.and_eq_true, Bool.and_eq_true] at h4
    obtain ⟨⟨g1, g2⟩, g3⟩ := h4
    replace g1 := Nat.eq_of_beq_eq_true g1
    subst g1
    refine ⟨q2, rfl, Nat.blt_eq.mp g2, fun m hm => ?_⟩
    subst hm
    exact Nat.eq_of_beq_eq_true g3

theorem ml_RL_9 : Cond.methodLink RL 9 yX11_init ∈ WS := wsm_1 (i := 26) rfl rfl
theorem ml_RL_13 : Cond.methodLink RL 13 yX11_house ∈ WS := wsm_2 (i := 136) rfl rfl
theorem ml_RL_18 : Cond.methodLink RL 18 yX11_street ∈ WS := wsm_2 (i := 147) rfl rfl
theorem ml_RL_23 : Cond.methodLink RL 23 yX11_feed ∈ WS := wsm_2 (i := 160) rfl rfl
theorem ml_RL_28 : Cond.methodLink RL 28 yX11_end ∈ WS := wsm_2 (i := 168) rfl rfl
theorem ml_RL_33 : Cond.methodLink RL 33 yX11_text ∈ WS := wsm_2 (i := 172) rfl rfl
theorem ml_RL_38 : Cond.methodLink RL 38 yX11_fault ∈ WS := wsm_3 (i := 221) rfl rfl
theorem ml_RL_42 : Cond.methodLink RL 42 yX11_by ∈ WS := wsm_3 (i := 225) rfl rfl
theorem ml_RL_47 : Cond.methodLink RL 47 yX11_light ∈ WS := wsm_3 (i := 229) rfl rfl
theorem ml_RL_51 : Cond.methodLink RL 51 yX11_cover ∈ WS := wsm_4 (i := 31) rfl rfl
theorem ml_RL_55 : Cond.methodLink RL 55 yX11_open ∈ WS := wsm_4 (i := 35) rfl rfl
theorem ml_RL_59 : Cond.methodLink RL 59 yX11_fetch ∈ WS := wsm_4 (i := 39) rfl rfl
theorem ml_RL_63 : Cond.methodLink RL 63 yX11_quench ∈ WS := wsm_4 (i := 43) rfl rfl
theorem ml_RL_67 : Cond.methodLink RL 67 yX11_warden ∈ WS := wsm_4 (i := 47) rfl rfl
theorem ml_RL_71 : Cond.methodLink RL 71 yX11_hour ∈ WS := wsm_4 (i := 138) rfl rfl
theorem ml_RL_75 : Cond.methodLink RL 75 yX11_played ∈ WS := wsm_4 (i := 164) rfl rfl
theorem ml_RL_79 : Cond.methodLink RL 79 yX11_winters ∈ WS := wsm_4 (i := 188) rfl rfl
theorem ml_RL_83 : Cond.methodLink RL 83 yX11_undo ∈ WS := wsm_4 (i := 200) rfl rfl
theorem ml_RL_87 : Cond.methodLink RL 87 yX11_of ∈ WS := wsm_4 (i := 214) rfl rfl
theorem ml_RL_91 : Cond.methodLink RL 91 yX11_is ∈ WS := wsm_4 (i := 228) rfl rfl
theorem ml_RL_95 : Cond.methodLink RL 95 yX11_book ∈ WS := wsm_4 (i := 233) rfl rfl
theorem ml_RL_99 : Cond.methodLink RL 99 yX11_foretold ∈ WS := wsm_5 (i := 6) rfl rfl
theorem ml_RL_104 : Cond.methodLink RL 104 yX11_out ∈ WS := wsm_5 (i := 15) rfl rfl
theorem ml_RL_108 : Cond.methodLink RL 108 yX11_far ∈ WS := wsm_5 (i := 19) rfl rfl
theorem ml_RL_112 : Cond.methodLink RL 112 yX11_round ∈ WS := wsm_5 (i := 38) rfl rfl
theorem ml_RL_116 : Cond.methodLink RL 116 yX11_again ∈ WS := wsm_5 (i := 89) rfl rfl
theorem ml_RL_120 : Cond.methodLink RL 120 yX11_warmth ∈ WS := wsm_5 (i := 98) rfl rfl
theorem ml_RL_125 : Cond.methodLink RL 125 yX11_ring ∈ WS := wsm_5 (i := 102) rfl rfl
theorem ml_RL_129 : Cond.methodLink RL 129 yX11_dawn ∈ WS := wsm_5 (i := 106) rfl rfl
theorem ml_RL_133 : Cond.methodLink RL 133 yX11_chain ∈ WS := wsm_5 (i := 126) rfl rfl
theorem ml_RL_137 : Cond.methodLink RL 137 yX11_stone ∈ WS := wsm_5 (i := 132) rfl rfl
theorem ml_RL_142 : Cond.methodLink RL 142 yX11_seen ∈ WS := wsm_5 (i := 149) rfl rfl
theorem ml_RL_147 : Cond.methodLink RL 147 yX11_began ∈ WS := wsm_5 (i := 153) rfl rfl
theorem ml_RL_151 : Cond.methodLink RL 151 yX11_whom ∈ WS := wsm_5 (i := 168) rfl rfl
theorem ml_RL_155 : Cond.methodLink RL 155 yX11_bid ∈ WS := wsm_5 (i := 191) rfl rfl
theorem ml_RL_159 : Cond.methodLink RL 159 yX11_leave ∈ WS := wsm_5 (i := 195) rfl rfl
theorem ml_RL_163 : Cond.methodLink RL 163 yX11_cooled ∈ WS := wsm_5 (i := 203) rfl rfl
theorem ml_RL_167 : Cond.methodLink RL 167 yX11_whose ∈ WS := wsm_5 (i := 207) rfl rfl
theorem ml_RL_171 : Cond.methodLink RL 171 yX11_befell ∈ WS := wsm_5 (i := 215) rfl rfl
theorem ml_RL_175 : Cond.methodLink RL 175 yX11_parts ∈ WS := wsm_5 (i := 219) rfl rfl
theorem ml_RL_179 : Cond.methodLink RL 179 yX11_warmest ∈ WS := wsm_5 (i := 224) rfl rfl
theorem ml_RL_183 : Cond.methodLink RL 183 yX11_leaves ∈ WS := wsm_5 (i := 228) rfl rfl
theorem ml_RL_187 : Cond.methodLink RL 187 yX11_kept ∈ WS := wsm_5 (i := 232) rfl rfl
theorem ml_RL_191 : Cond.methodLink RL 191 yX11_image ∈ WS := wsm_5 (i := 236) rfl rfl
theorem ml_RL_195 : Cond.methodLink RL 195 yX11_back ∈ WS := wsm_6 (i := 16) rfl rfl
theorem ml_RL_199 : Cond.methodLink RL 199 yX11_about ∈ WS := wsm_6 (i := 20) rfl rfl
theorem ml_RL_12 : Cond.methodLink RL 12 yX12_init ∈ WS := wsm_6 (i := 26) rfl rfl
theorem ml_RL_17 : Cond.methodLink RL 17 yX12_house ∈ WS := wsm_6 (i := 130) rfl rfl
theorem ml_RL_22 : Cond.methodLink RL 22 yX12_street ∈ WS := wsm_6 (i := 149) rfl rfl
theorem ml_RL_27 : Cond.methodLink RL 27 yX12_feed ∈ WS := wsm_6 (i := 157) rfl rfl
theorem ml_RL_32 : Cond.methodLink RL 32 yX12_end ∈ WS := wsm_6 (i := 165) rfl rfl
theorem ml_RL_37 : Cond.methodLink RL 37 yX12_text ∈ WS := wsm_6 (i := 169) rfl rfl
theorem ml_RL_41 : Cond.methodLink RL 41 yX12_fault ∈ WS := wsm_7 (i := 73) rfl rfl
theorem ml_RL_46 : Cond.methodLink RL 46 yX12_by ∈ WS := wsm_7 (i := 77) rfl rfl
theorem ml_RL_86 : Cond.methodLink RL 86 yX12_undo ∈ WS := wsm_7 (i := 81) rfl rfl
theorem ml_RL_50 : Cond.methodLink RL 50 yX12_light ∈ WS := wsm_7 (i := 85) rfl rfl
theorem ml_RL_54 : Cond.methodLink RL 54 yX12_cover ∈ WS := wsm_7 (i := 105) rfl rfl
theorem ml_RL_58 : Cond.methodLink RL 58 yX12_open ∈ WS := wsm_7 (i := 113) rfl rfl
theorem ml_RL_66 : Cond.methodLink RL 66 yX12_quench ∈ WS := wsm_7 (i := 117) rfl rfl
theorem ml_RL_62 : Cond.methodLink RL 62 yX12_fetch ∈ WS := wsm_7 (i := 121) rfl rfl
theorem ml_RL_70 : Cond.methodLink RL 70 yX12_warden ∈ WS := wsm_7 (i := 145) rfl rfl
theorem ml_RL_74 : Cond.methodLink RL 74 yX12_hour ∈ WS := wsm_7 (i := 210) rfl rfl
theorem ml_RL_78 : Cond.methodLink RL 78 yX12_played ∈ WS := wsm_8 (i := 9) rfl rfl
theorem ml_RL_82 : Cond.methodLink RL 82 yX12_winters ∈ WS := wsm_8 (i := 25) rfl rfl
theorem ml_RL_90 : Cond.methodLink RL 90 yX12_of ∈ WS := wsm_8 (i := 33) rfl rfl
theorem ml_RL_94 : Cond.methodLink RL 94 yX12_is ∈ WS := wsm_8 (i := 37) rfl rfl
theorem ml_RL_98 : Cond.methodLink RL 98 yX12_book ∈ WS := wsm_8 (i := 41) rfl rfl
theorem ml_RL_174 : Cond.methodLink RL 174 yX12_befell ∈ WS := wsm_8 (i := 49) rfl rfl
theorem ml_RL_182 : Cond.methodLink RL 182 yX12_warmest ∈ WS := wsm_8 (i := 53) rfl rfl
theorem ml_RL_186 : Cond.methodLink RL 186 yX12_leaves ∈ WS := wsm_8 (i := 57) rfl rfl
theorem ml_RL_190 : Cond.methodLink RL 190 yX12_kept ∈ WS := wsm_8 (i := 61) rfl rfl
theorem ml_RL_178 : Cond.methodLink RL 178 yX12_parts ∈ WS := wsm_8 (i := 65) rfl rfl
theorem ml_RL_103 : Cond.methodLink RL 103 yX12_foretold ∈ WS := wsm_8 (i := 77) rfl rfl
theorem ml_RL_107 : Cond.methodLink RL 107 yX12_out ∈ WS := wsm_8 (i := 89) rfl rfl
theorem ml_RL_111 : Cond.methodLink RL 111 yX12_far ∈ WS := wsm_8 (i := 93) rfl rfl
theorem ml_RL_115 : Cond.methodLink RL 115 yX12_round ∈ WS := wsm_8 (i := 102) rfl rfl
theorem ml_RL_119 : Cond.methodLink RL 119 yX12_again ∈ WS := wsm_8 (i := 124) rfl rfl
theorem ml_RL_124 : Cond.methodLink RL 124 yX12_warmth ∈ WS := wsm_8 (i := 128) rfl rfl
theorem ml_RL_128 : Cond.methodLink RL 128 yX12_ring ∈ WS := wsm_8 (i := 132) rfl rfl
theorem ml_RL_132 : Cond.methodLink RL 132 yX12_dawn ∈ WS := wsm_8 (i := 136) rfl rfl
theorem ml_RL_136 : Cond.methodLink RL 136 yX12_chain ∈ WS := wsm_8 (i := 148) rfl rfl
theorem ml_RL_141 : Cond.methodLink RL 141 yX12_stone ∈ WS := wsm_8 (i := 152) rfl rfl
theorem ml_RL_146 : Cond.methodLink RL 146 yX12_seen ∈ WS := wsm_8 (i := 160) rfl rfl
theorem ml_RL_150 : Cond.methodLink RL 150 yX12_began ∈ WS := wsm_8 (i := 164) rfl rfl
theorem ml_RL_154 : Cond.methodLink RL 154 yX12_whom ∈ WS := wsm_8 (i := 180) rfl rfl
theorem ml_RL_158 : Cond.methodLink RL 158 yX12_bid ∈ WS := wsm_8 (i := 188) rfl rfl
theorem ml_RL_162 : Cond.methodLink RL 162 yX12_leave ∈ WS := wsm_8 (i := 192) rfl rfl
theorem ml_RL_166 : Cond.methodLink RL 166 yX12_cooled ∈ WS := wsm_8 (i := 200) rfl rfl
theorem ml_RL_170 : Cond.methodLink RL 170 yX12_whose ∈ WS := wsm_8 (i := 204) rfl rfl
theorem ml_RL_194 : Cond.methodLink RL 194 yX12_image ∈ WS := wsm_8 (i := 208) rfl rfl
theorem ml_RL_198 : Cond.methodLink RL 198 yX12_back ∈ WS := wsm_8 (i := 212) rfl rfl
theorem ml_RL_202 : Cond.methodLink RL 202 yX12_about ∈ WS := wsm_8 (i := 216) rfl rfl
