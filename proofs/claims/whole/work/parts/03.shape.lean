/-! the classes, their fields by kind: (t, off, code, len): t 0 int, 1 long, 2 a cell at address k + off of kind code (and length), 3 boolean -/
abbrev FK : Type := Nat × Nat × Nat × Option Nat
def cN : Nat → vw_C := fun c => match c with
  | 0 => (RX0, TX0, 7)
  | 1 => (RX1, TX1, 2)
  | 2 => (RX2, TX2, 4)
  | 3 => (RX3, TX3, 13)
  | 4 => (RX4, TX4, 3)
  | 5 => (RX5, TX5, 2)
  | 6 => (RX6, TX6, 5)
  | 7 => (RX7, TX7, 4)
  | 8 => (RX8, TX8, 10)
  | 9 => (RX9, TX9, 2)
  | 10 => (RX10, TX10, 15)
  | 11 => (RX11, TX11, 11)
  | _ => (RX12, TX12, 32)
def acl : List vw_C := [(RX0, TX0, 7), (RX1, TX1, 2), (RX2, TX2, 4), (RX3, TX3, 13), (RX4, TX4, 3), (RX5, TX5, 2), (RX6, TX6, 5), (RX7, TX7, 4), (RX8, TX8, 10), (RX9, TX9, 2), (RX10, TX10, 15), (RX11, TX11, 11), (RX12, TX12, 32)]
def tyN : Nat → Nat → FieldType := fun c => match c with
  | 0 => tyX0
  | 1 => tyX1
  | 2 => tyX2
  | 3 => tyX3
  | 4 => tyX4
  | 5 => tyX5
  | 6 => tyX6
  | 7 => tyX7
  | 8 => tyX8
  | 9 => tyX9
  | 10 => tyX10
  | 11 => tyX11
  | _ => tyX12
def flds : Nat → List FK := fun c => match c with
  | 0 => [(2, 1, 13, some 8), (0, 0, 0, none), (2, 2, 13, some 8), (2, 3, 13, some 8), (2, 4, 13, some 8), (0, 0, 0, none), (0, 0, 0, none)]
  | 1 => [(2, 1, 13, some 300), (0, 0, 0, none)]
  | 2 => [(2, 1, 14, some 8), (2, 2, 14, some 8), (0, 0, 0, none), (0, 0, 0, none)]
  | 3 => [(3, 0, 0, none), (0, 0, 0, none), (0, 0, 0, none), (2, 1, 7, some 0), (0, 0, 0, none), (2, 5, 13, some 96), (0, 0, 0, none), (2, 6, 13, some 300), (2, 7, 13, some 300), (0, 0, 0, none), (2, 8, 13, some 3), (2, 9, 13, some 3), (0, 0, 0, none)]
  | 4 => [(2, 1, 13, some 1770), (0, 0, 0, none), (0, 0, 0, none)]
  | 5 => [(2, 1, 13, some 64), (2, 2, 13, some 8)]
  | 6 => [(2, 1, 13, none), (2, 2, 13, none), (2, 3, 13, none), (2, 4, 13, none), (2, 5, 13, none)]
  | 7 => [(2, 1, 13, some 301), (2, 2, 13, some 301), (2, 3, 13, some 301), (0, 0, 0, none)]
  | 8 => [(0, 0, 0, none), (2, 1, 13, some 8), (2, 2, 13, some 8), (2, 3, 13, some 8), (2, 4, 13, some 8), (0, 0, 0, none), (0, 0, 0, none), (0, 0, 0, none), (2, 5, 13, some 30), (0, 0, 0, none)]
  | 9 => [(2, 1, 13, some 64), (2, 2, 13, some 256)]
  | 10 => [(2, 1, 8, some 0), (2, 7, 5, some 0), (2, 10, 4, some 0), (2, 12, 16, some 4), (0, 0, 0, none), (0, 0, 0, none), (2, 13, 13, some 24), (2, 14, 13, some 8), (2, 15, 13, some 8), (2, 16, 13, some 8), (2, 17, 15, some 8), (0, 0, 0, none), (2, 18, 13, some 8), (2, 19, 13, some 8), (0, 0, 0, none)]
  | 11 => [(2, 1, 10, some 0), (2, 21, 10, some 0), (2, 41, 8, some 0), (2, 47, 1, some 0), (2, 49, 3, some 0), (2, 59, 9, some 0), (2, 62, 0, some 0), (2, 67, 2, some 0), (2, 70, 13, some 300), (2, 71, 13, some 24), (0, 0, 0, none)]
  | _ => [(2, 1, 13, some 1986), (2, 2, 13, some 1986), (2, 3, 13, some 2820), (2, 4, 13, some 300), (0, 0, 0, none), (0, 0, 0, none), (0, 0, 0, none), (0, 0, 0, none), (0, 0, 0, none), (0, 0, 0, none), (0, 0, 0, none), (1, 0, 0, none), (0, 0, 0, none), (0, 0, 0, none), (0, 0, 0, none), (2, 5, 13, some 160), (0, 0, 0, none), (0, 0, 0, none), (3, 0, 0, none), (0, 0, 0, none), (2, 6, 13, some 9), (2, 7, 14, some 330), (2, 8, 15, some 330), (0, 0, 0, none), (3, 0, 0, none), (0, 0, 0, none), (2, 9, 13, some 50), (2, 10, 13, some 64), (2, 11, 13, some 256), (2, 12, 13, some 8), (2, 13, 13, some 64), (2, 14, 15, some 120)]
def κX0 : List (Nat × Nat) := [(11, 0), (10, 0), (8, 0), (13, 8), (13, 8), (13, 8), (13, 8), (13, 30), (5, 0), (13, 64), (13, 8), (4, 0), (13, 1770), (16, 4), (13, 24), (13, 8), (13, 8), (13, 8), (15, 8), (13, 8), (13, 8), (10, 0), (8, 0), (13, 8), (13, 8), (13, 8), (13, 8), (13, 30), (5, 0), (13, 64), (13, 8), (4, 0), (13, 1770), (16, 4), (13, 24), (13, 8), (13, 8), (13, 8), (15, 8), (13, 8), (13, 8), (8, 0), (13, 8), (13, 8), (13, 8), (13, 8), (13, 30), (1, 0), (13, 300), (3, 0), (7, 0), (13, 301), (13, 301), (13, 301), (13, 96), (13, 300), (13, 300), (13, 3), (13, 3), (9, 0), (13, 64), (13, 256), (0, 0), (13, 8), (13, 8), (13, 8), (13, 8), (2, 0), (14, 8), (14, 8), (13, 300), (13, 24)]
def κM : List (Nat × Nat) := [(12, 0), (13, 1986), (13, 1986), (13, 2820), (13, 300), (13, 160), (13, 9), (14, 330), (15, 330), (13, 50), (13, 64), (13, 256), (13, 8), (13, 64), (15, 120)]
theorem acl_cN {c : Nat} (h : c < 13) : acl[c]? = some (cN c) := by
  match c, h with
  | 0, _ => rfl
  | 1, _ => rfl
  | 2, _ => rfl
  | 3, _ => rfl
  | 4, _ => rfl
  | 5, _ => rfl
  | 6, _ => rfl
  | 7, _ => rfl
  | 8, _ => rfl
  | 9, _ => rfl
  | 10, _ => rfl
  | 11, _ => rfl
  | 12, _ => rfl
  | c + 13, h => omega
theorem flds_len {c : Nat} (h : c < 13) : (flds c).length = (cN c).2.2 := by
  match c, h with
  | 0, _ => rfl
  | 1, _ => rfl
  | 2, _ => rfl
  | 3, _ => rfl
  | 4, _ => rfl
  | 5, _ => rfl
  | 6, _ => rfl
  | 7, _ => rfl
  | 8, _ => rfl
  | 9, _ => rfl
  | 10, _ => rfl
  | 11, _ => rfl
  | 12, _ => rfl
  | c + 13, h => omega
theorem uws_0 : ∀ w ∈ u_ws RX0 TX0 7, w ∈ WS := List.forall_mem_cons.mpr ⟨wsm_2 (i := 67) rfl rfl, List.forall_mem_cons.mpr ⟨wsm_2 (i := 69) rfl rfl, List.forall_mem_cons.mpr ⟨wsm_2 (i := 71) rfl rfl, List.forall_mem_cons.mpr ⟨wsm_2 (i := 73) rfl rfl, List.forall_mem_cons.mpr ⟨wsm_2 (i := 75) rfl rfl, List.forall_mem_cons.mpr ⟨wsm_2 (i := 77) rfl rfl, List.forall_mem_cons.mpr ⟨wsm_2 (i := 79) rfl rfl, (fun _ h => absurd h List.not_mem_nil)⟩⟩⟩⟩⟩⟩⟩
theorem uws_1 : ∀ w ∈ u_ws RX1 TX1 2, w ∈ WS := List.forall_mem_cons.mpr ⟨wsm_1 (i := 206) rfl rfl, List.forall_mem_cons.mpr ⟨wsm_1 (i := 208) rfl rfl, (fun _ h => absurd h List.not_mem_nil)⟩⟩
theorem uws_2 : ∀ w ∈ u_ws RX2 TX2 4, w ∈ WS := List.forall_mem_cons.mpr ⟨wsm_2 (i := 92) rfl rfl, List.forall_mem_cons.mpr ⟨wsm_2 (i := 94) rfl rfl, List.forall_mem_cons.mpr ⟨wsm_2 (i := 96) rfl rfl, List.forall_mem_cons.mpr ⟨wsm_2 (i := 98) rfl rfl, (fun _ h => absurd h List.not_mem_nil)⟩⟩⟩⟩
theorem uws_3 : ∀ w ∈ u_ws RX3 TX3 13, w ∈ WS := List.forall_mem_cons.mpr ⟨wsm_2 (i := 12) rfl rfl, List.forall_mem_cons.mpr ⟨wsm_2 (i := 14) rfl rfl, List.forall_mem_cons.mpr ⟨wsm_2 (i := 16) rfl rfl, List.forall_mem_cons.mpr ⟨wsm_2 (i := 18) rfl rfl, List.forall_mem_cons.mpr ⟨wsm_2 (i := 20) rfl rfl, List.forall_mem_cons.mpr ⟨wsm_2 (i := 22) rfl rfl, List.forall_mem_cons.mpr ⟨wsm_2 (i := 24) rfl rfl, List.forall_mem_cons.mpr ⟨wsm_2 (i := 26) rfl rfl, List.forall_mem_cons.mpr ⟨wsm_2 (i := 28) rfl rfl, List.forall_mem_cons.mpr ⟨wsm_2 (i := 30) rfl rfl, List.forall_mem_cons.mpr ⟨wsm_2 (i := 32) rfl rfl, List.forall_mem_cons.mpr ⟨wsm_2 (i := 34) rfl rfl, List.forall_mem_cons.mpr ⟨wsm_2 (i := 36) rfl rfl, (fun _ h => absurd h List.not_mem_nil)⟩⟩⟩⟩⟩⟩⟩⟩⟩⟩⟩⟩⟩
theorem uws_4 : ∀ w ∈ u_ws RX4 TX4 3, w ∈ WS := List.forall_mem_cons.mpr ⟨wsm_1 (i := 121) rfl rfl, List.forall_mem_cons.mpr ⟨wsm_1 (i := 123) rfl rfl, List.forall_mem_cons.mpr ⟨wsm_1 (i := 125) rfl rfl, (fun _ h => absurd h List.not_mem_nil)⟩⟩⟩
theorem uws_5 : ∀ w ∈ u_ws RX5 TX5 2, w ∈ WS := List.forall_mem_cons.mpr ⟨wsm_1 (i := 106) rfl rfl, List.forall_mem_cons.mpr ⟨wsm_1 (i := 108) rfl rfl, (fun _ h => absurd h List.not_mem_nil)⟩⟩
theorem uws_6 : ∀ w ∈ u_ws RX6 TX6 5, w ∈ WS := List.forall_mem_cons.mpr ⟨wsm_3 (i := 205) rfl rfl, List.forall_mem_cons.mpr ⟨wsm_3 (i := 207) rfl rfl, List.forall_mem_cons.mpr ⟨wsm_3 (i := 209) rfl rfl, List.forall_mem_cons.mpr ⟨wsm_3 (i := 211) rfl rfl, List.forall_mem_cons.mpr ⟨wsm_3 (i := 213) rfl rfl, (fun _ h => absurd h List.not_mem_nil)⟩⟩⟩⟩⟩
theorem uws_7 : ∀ w ∈ u_ws RX7 TX7 4, w ∈ WS := List.forall_mem_cons.mpr ⟨wsm_1 (i := 227) rfl rfl, List.forall_mem_cons.mpr ⟨wsm_1 (i := 229) rfl rfl, List.forall_mem_cons.mpr ⟨wsm_1 (i := 231) rfl rfl, List.forall_mem_cons.mpr ⟨wsm_1 (i := 233) rfl rfl, (fun _ h => absurd h List.not_mem_nil)⟩⟩⟩⟩
theorem uws_8 : ∀ w ∈ u_ws RX8 TX8 10, w ∈ WS := List.forall_mem_cons.mpr ⟨wsm_1 (i := 72) rfl rfl, List.forall_mem_cons.mpr ⟨wsm_1 (i := 74) rfl rfl, List.forall_mem_cons.mpr ⟨wsm_1 (i := 76) rfl rfl, List.forall_mem_cons.mpr ⟨wsm_1 (i := 78) rfl rfl, List.forall_mem_cons.mpr ⟨wsm_1 (i := 80) rfl rfl, List.forall_mem_cons.mpr ⟨wsm_1 (i := 82) rfl rfl, List.forall_mem_cons.mpr ⟨wsm_1 (i := 84) rfl rfl, List.forall_mem_cons.mpr ⟨wsm_1 (i := 86) rfl rfl, List.forall_mem_cons.mpr ⟨wsm_1 (i := 88) rfl rfl, List.forall_mem_cons.mpr ⟨wsm_1 (i := 90) rfl rfl, (fun _ h => absurd h List.not_mem_nil)⟩⟩⟩⟩⟩⟩⟩⟩⟩⟩
theorem uws_9 : ∀ w ∈ u_ws RX9 TX9 2, w ∈ WS := List.forall_mem_cons.mpr ⟨wsm_2 (i := 47) rfl rfl, List.forall_mem_cons.mpr ⟨wsm_2 (i := 49) rfl rfl, (fun _ h => absurd h List.not_mem_nil)⟩⟩
theorem uws_10 : ∀ w ∈ u_ws RX10 TX10 15, w ∈ WS := List.forall_mem_cons.mpr ⟨wsm_1 (i := 164) rfl rfl, List.forall_mem_cons.mpr ⟨wsm_1 (i := 166) rfl rfl, List.forall_mem_cons.mpr ⟨wsm_1 (i := 168) rfl rfl, List.forall_mem_cons.mpr ⟨wsm_1 (i := 170) rfl rfl, List.forall_mem_cons.mpr ⟨wsm_1 (i := 172) rfl rfl, List.forall_mem_cons.mpr ⟨wsm_1 (i := 174) rfl rfl, List.forall_mem_cons.mpr ⟨wsm_1 (i := 176) rfl rfl, List.forall_mem_cons.mpr ⟨wsm_1 (i := 178) rfl rfl, List.forall_mem_cons.mpr ⟨wsm_1 (i := 180) rfl rfl, List.forall_mem_cons.mpr ⟨wsm_1 (i := 182) rfl rfl, List.forall_mem_cons.mpr ⟨wsm_1 (i := 184) rfl rfl, List.forall_mem_cons.mpr ⟨wsm_1 (i := 186) rfl rfl, List.forall_mem_cons.mpr ⟨wsm_1 (i := 188) rfl rfl, List.forall_mem_cons.mpr ⟨wsm_1 (i := 190) rfl rfl, List.forall_mem_cons.mpr ⟨wsm_1 (i := 192) rfl rfl, (fun _ h => absurd h List.not_mem_nil)⟩⟩⟩⟩⟩⟩⟩⟩⟩⟩⟩⟩⟩⟩⟩
theorem uws_11 : ∀ w ∈ u_ws RX11 TX11 11, w ∈ WS := List.forall_mem_cons.mpr ⟨wsm_2 (i := 113) rfl rfl, List.forall_mem_cons.mpr ⟨wsm_2 (i := 115) rfl rfl, List.forall_mem_cons.mpr ⟨wsm_2 (i := 117) rfl rfl, List.forall_mem_cons.mpr ⟨wsm_2 (i := 119) rfl rfl, List.forall_mem_cons.mpr ⟨wsm_2 (i := 121) rfl rfl, List.forall_mem_cons.mpr ⟨wsm_2 (i := 123) rfl rfl, List.forall_mem_cons.mpr ⟨wsm_2 (i := 125) rfl rfl, List.forall_mem_cons.mpr ⟨wsm_2 (i := 127) rfl rfl, List.forall_mem_cons.mpr ⟨wsm_2 (i := 129) rfl rfl, List.forall_mem_cons.mpr ⟨wsm_2 (i := 131) rfl rfl, List.forall_mem_cons.mpr ⟨wsm_2 (i := 133) rfl rfl, (fun _ h => absurd h List.not_mem_nil)⟩⟩⟩⟩⟩⟩⟩⟩⟩⟩⟩
theorem uws_12 : ∀ w ∈ u_ws RX12 TX12 32, w ∈ WS := List.forall_mem_cons.mpr ⟨wsm_6 (i := 65) rfl rfl, List.forall_mem_cons.mpr ⟨wsm_6 (i := 67) rfl rfl, List.forall_mem_cons.mpr ⟨wsm_6 (i := 69) rfl rfl, List.forall_mem_cons.mpr ⟨wsm_6 (i := 71) rfl rfl, List.forall_mem_cons.mpr ⟨wsm_6 (i := 73) rfl rfl, List.forall_mem_cons.mpr ⟨wsm_6 (i := 75) rfl rfl, List.forall_mem_cons.mpr ⟨wsm_6 (i := 77) rfl rfl, List.forall_mem_cons.mpr ⟨wsm_6 (i := 79) rfl rfl, List.forall_mem_cons.mpr ⟨wsm_6 (i := 81) rfl rfl, List.forall_mem_cons.mpr ⟨wsm_6 (i := 83) rfl rfl, List.forall_mem_cons.mpr ⟨wsm_6 (i := 85) rfl rfl, List.forall_mem_cons.mpr ⟨wsm_6 (i := 87) rfl rfl, List.forall_mem_cons.mpr ⟨wsm_6 (i := 89) rfl rfl, List.forall_mem_cons.mpr ⟨wsm_6 (i := 91) rfl rfl, List.forall_mem_cons.mpr ⟨wsm_6 (i := 93) rfl rfl, List.forall_mem_cons.mpr ⟨wsm_6 (i := 95) rfl rfl, List.forall_mem_cons.mpr ⟨wsm_6 (i := 97) rfl rfl, List.forall_mem_cons.mpr ⟨wsm_6 (i := 99) rfl rfl, List.forall_mem_cons.mpr ⟨wsm_6 (i := 101) rfl rfl, List.forall_mem_cons.mpr ⟨wsm_6 (i := 103) rfl rfl, List.forall_mem_cons.mpr ⟨wsm_6 (i := 105) rfl rfl, List.forall_mem_cons.mpr ⟨wsm_6 (i := 107) rfl rfl, List.forall_mem_cons.mpr ⟨wsm_6 (i := 109) rfl rfl, List.forall_mem_cons.mpr ⟨wsm_6 (i := 111) rfl rfl, List.forall_mem_cons.mpr ⟨wsm_6 (i := 113) rfl rfl, List.forall_mem_cons.mpr ⟨wsm_6 (i := 115) rfl rfl, List.forall_mem_cons.mpr ⟨wsm_6 (i := 117) rfl rfl, List.forall_mem_cons.mpr ⟨wsm_6 (i := 119) rfl rfl, List.forall_mem_cons.mpr ⟨wsm_6 (i := 121) rfl rfl, List.forall_mem_cons.mpr ⟨wsm_6 (i := 123) rfl rfl, List.forall_mem_cons.mpr ⟨wsm_6 (i := 125) rfl rfl, List.forall_mem_cons.mpr ⟨wsm_6 (i := 127) rfl rfl, (fun _ h => absurd h List.not_mem_nil)⟩⟩⟩⟩⟩⟩⟩⟩⟩⟩⟩⟩⟩⟩⟩⟩⟩⟩⟩⟩⟩⟩⟩⟩⟩⟩⟩⟩⟩⟩⟩⟩
theorem cN_ws {c : Nat} (h : c < 13) : ∀ w ∈ u_ws (cN c).1 (cN c).2.1 (cN c).2.2, w ∈ WS := by
  match c, h with
  | 0, _ => exact uws_0
  | 1, _ => exact uws_1
  | 2, _ => exact uws_2
  | 3, _ => exact uws_3
  | 4, _ => exact uws_4
  | 5, _ => exact uws_5
  | 6, _ => exact uws_6
  | 7, _ => exact uws_7
  | 8, _ => exact uws_8
  | 9, _ => exact uws_9
  | 10, _ => exact uws_10
  | 11, _ => exact uws_11
  | 12, _ => exact uws_12
  | c + 13, h => omega
theorem cN_ty {c : Nat} (h : c < 13) : ∀ k, k < (cN c).2.2 → parseFieldDescriptor ((cN c).2.1 k).2.2.1 = some (tyN c k) := by
  match c, h with
  | 0, _ => exact tyX0_ok
  | 1, _ => exact tyX1_ok
  | 2, _ => exact tyX2_ok
  | 3, _ => exact tyX3_ok
  | 4, _ => exact tyX4_ok
  | 5, _ => exact tyX5_ok
  | 6, _ => exact tyX6_ok
  | 7, _ => exact tyX7_ok
  | 8, _ => exact tyX8_ok
  | 9, _ => exact tyX9_ok
  | 10, _ => exact tyX10_ok
  | 11, _ => exact tyX11_ok
  | 12, _ => exact tyX12_ok
  | c + 13, h => omega
theorem cN_nm {c : Nat} (h : c < 13) : ∀ a, a < (cN c).2.2 → ∀ b, b < (cN c).2.2 → a ≠ b → ((cN c).2.1 a).2.1 ≠ ((cN c).2.1 b).2.1 := by
  match c, h with
  | 0, _ => exact nmX0
  | 1, _ => exact nmX1
  | 2, _ => exact nmX2
  | 3, _ => exact nmX3
  | 4, _ => exact nmX4
  | 5, _ => exact nmX5
  | 6, _ => exact nmX6
  | 7, _ => exact nmX7
  | 8, _ => exact nmX8
  | 9, _ => exact nmX9
  | 10, _ => exact nmX10
  | 11, _ => exact nmX11
  | 12, _ => exact nmX12
  | c + 13, h => omega
/-- what a field of each kind is in the class file -/
def fkTy (t : Nat) : FieldType := match t with
  | 1 => .long
  | 3 => .boolean
  | _ => .int
def fkOK (c : Nat) : Bool := (List.range (cN c).2.2).all fun k => match (flds c)[k]? with
  | some f => decide (f.1 = 2) || (decide (f.1 < 4) && decide (tyN c k = fkTy f.1) && !((cN c).2.1 k).2.2.2)
  | none => false
theorem fkOK_all : (List.range 13).all fkOK = true := by decide +kernel
