/-! text: the reference's tokens -/
/-- the words, as the reference packs them -/
def pkw (k : Nat) : Nat := match k with
  | 0 => 427071335539
  | 1 => 32493258951189619
  | 2 => 1718185573
  | 3 => 448546567013
  | 4 => 126943972648308
  | 5 => 465624852596
  | 6 => 427071792498
  | 7 => 1869636974
  | 8 => 439788790632
  | 9 => 124749026845544
  | 10 => 131260414715246
  | 11 => 1752135026
  | 12 => 1650814060
  | 13 => 2003398244
  | 14 => 7825519
  | 15 => 2003791716
  | 16 => 1718186597
  | 17 => 1751474548
  | 18 => 1852137842
  | 19 => 483006772069
  | 20 => 427070942835
  | 21 => 29807
  | 22 => 28518
  | 23 => 1718775661
  | 24 => 26982
  | 25 => 1952998766
  | 26 => 1701606245
  | 27 => 6647396
  | 28 => 6385252
  | 29 => 28530
  | 47 => 2002874989
  | 48 => 7237492
  | 49 => 7300196
  | 50 => 1702258030
  | _ => 0
def isW (k : Nat) : Prop := k ≤ 29 ∨ (47 ≤ k ∧ k ≤ 50)
/-- the signs, as the reference has them -/
def sgn (k : Nat) : Nat := if k = 30 then 60 else if k = 31 then 4 else if k = 32 then 62 else if k = 33 then 5 else if k = 34 then 61 else if k = 35 then 35 else if k = 36 then 43 else if k = 37 then 45 else if k = 38 then 42 else if k = 39 then 47 else if k = 40 then 40 else if k = 41 then 41 else 59
def TM (σ : Sg) (k v : Nat) : Prop := (k = 45 ∧ σ.1 0 9 = nI 0) ∨ (k = 43 ∧ σ.1 0 9 = nI 1 ∧ ∃ w, w ≤ 2000000 ∧ σ.1 0 10 = nI w ∧ ((w = v ∧ v ≤ 9999) ∨ (9999 < w ∧ 9999 < v))) ∨ ((30 ≤ k ∧ k ≤ 42) ∧ σ.1 0 9 = nI (sgn k)) ∨ (k = 44 ∧ (σ.1 0 9 = nI 3 ∨ σ.1 0 9 = nI 58)) ∨ ((isW k ∨ k = 44) ∧ σ.1 0 9 = nI 2 ∧ ∃ w, w < 4611686018427387904 ∧ σ.2.1 0 11 = iL (w : Nat) ∧ ∀ j, isW j → j ≠ 1 → (w = pkw j ↔ k = j))
theorem TM.of {σ σ' : Sg} {k v : Nat} (h : TM σ k v) (e1 : σ'.1 0 9 = σ.1 0 9) (e2 : σ'.1 0 10 = σ.1 0 10) (e3 : σ'.2.1 0 11 = σ.2.1 0 11) : TM σ' k v := by
  unfold TM at h ⊢
  rw [e1, e2, e3]
  exact h
theorem pkw_lt : ∀ j, j ≤ 50 → pkw j < 4611686018427387904 := by decide
theorem sgn_t : ∀ k, k ≤ 42 → 30 ≤ k → ∀ j, j ≤ 42 → 30 ≤ j → (sgn k = sgn j ↔ k = j) := by decide
theorem sgn_b : ∀ k, k ≤ 42 → 30 ≤ k → 4 ≤ sgn k ∧ sgn k ≤ 62 ∧ sgn k ≠ 58 := by decide
/-- which word it is -/
theorem m_isWord {σ : Sg} {k v j : Nat} (h : TM σ k v) (hj : isW j) (hj1 : j ≠ 1) (hk : k ≤ 50) : f_X12_isWord (iL (pkw j : Nat)) σ = some (if k = j then nI 1 else nI 0, σ) := by
  have j50 : j ≤ 50 := by unfold isW at hj; omega
  have pj := pkw_lt j j50
  have no : ∀ x, x < 1000 → x ≠ 2 → σ.1 0 9 = nI x → ¬ k = j → f_X12_isWord (iL (pkw j : Nat)) σ = some (if k = j then nI 1 else nI 0, σ) := by
    intro x hx h2 e hkj
    unfold f_X12_isWord f_X12_isWord_21 f_X12_isWord_22
    rw [e, if_neg (show ¬ (nI x = 2) from fun q => h2 ((nI_eq (b := 2) (by omega) (by decide)).mp q)), if_neg hkj]
    rfl
  have nj : ∀ x, 30 ≤ x → x ≤ 46 → ¬ x = j := fun x h1 h2 q => by
    unfold isW at hj
    omega
  rcases h with ⟨h1, h2⟩ | ⟨h1, h2, _⟩ | ⟨h1, h2⟩ | ⟨h1, h2 | h2⟩ | ⟨h1, h2, w, h3, h4, h5⟩
  · exact no 0 (by decide) (by decide) h2 (nj _ (by omega) (by omega))
  · exact no 1 (by decide) (by decide) h2 (nj _ (by omega) (by omega))
  · have := sgn_b k h1.2 h1.1
    exact no _ (by omega) (by omega) h2 (nj _ h1.1 (by omega))
  · exact no 3 (by decide) (by decide) h2 (nj _ (by omega) (by omega))
  · exact no 58 (by decide) (by decide) h2 (nj _ (by omega) (by omega))
  · have c : (lg_cmp (iL (w : Nat)) (iL (pkw j : Nat)) = 0) = ((w : Int) = (pkw j : Int)) := (cmp_eq (x := iL (w : Nat)) (y := iL (pkw j : Nat))).trans (iL_eq (by omega) (by omega))
    unfold f_X12_isWord f_X12_isWord_21 f_X12_isWord_22
    rw [h2, if_pos (show nI 2 = 2 from rfl), h4]
    by_cases z : k = j
    · have := (h5 j hj hj1).mpr z
      rw [if_pos (c.mpr (by omega)), if_pos z]
      rfl
    · have : ¬ w = pkw j := fun q => z ((h5 j hj hj1).mp q)
      rw [if_neg (fun q => this (by have := c.mp q; omega)), if_neg z]
      rfl
theorem wd_0 (σ : Sg) : f_X12_w5 99 111 111 108 115 σ = some (iL (pkw 0 : Nat), σ) := congrArg (fun x => some (x, σ)) (show ((lshl ((lshl ((lshl ((lshl (Int32.toInt64 (99 : Int32)) 8 ||| Int32.toInt64 (111 : Int32))) 8 ||| Int32.toInt64 (111 : Int32))) 8 ||| Int32.toInt64 (108 : Int32))) 8 ||| Int32.toInt64 (115 : Int32)) : Int64) = iL (pkw 0 : Nat) by decide +kernel)
theorem wd_2 (σ : Sg) : f_X12_w4 102 105 110 101 σ = some (iL (pkw 2 : Nat), σ) := congrArg (fun x => some (x, σ)) (show ((lshl ((lshl ((lshl (Int32.toInt64 (102 : Int32)) 8 ||| Int32.toInt64 (105 : Int32))) 8 ||| Int32.toInt64 (110 : Int32))) 8 ||| Int32.toInt64 (101 : Int32)) : Int64) = iL (pkw 2 : Nat) by decide +kernel)
theorem wd_3 (σ : Sg) : f_X12_w5 104 111 117 115 101 σ = some (iL (pkw 3 : Nat), σ) := congrArg (fun x => some (x, σ)) (show ((lshl ((lshl ((lshl ((lshl (Int32.toInt64 (104 : Int32)) 8 ||| Int32.toInt64 (111 : Int32))) 8 ||| Int32.toInt64 (117 : Int32))) 8 ||| Int32.toInt64 (115 : Int32))) 8 ||| Int32.toInt64 (101 : Int32)) : Int64) = iL (pkw 3 : Nat) by decide +kernel)
theorem wd_4 (σ : Sg) : f_X12_w6 115 116 114 101 101 116 σ = some (iL (pkw 4 : Nat), σ) := congrArg (fun x => some (x, σ)) (show ((lshl ((lshl ((lshl ((lshl ((lshl (Int32.toInt64 (115 : Int32)) 8 ||| Int32.toInt64 (116 : Int32))) 8 ||| Int32.toInt64 (114 : Int32))) 8 ||| Int32.toInt64 (101 : Int32))) 8 ||| Int32.toInt64 (101 : Int32))) 8 ||| Int32.toInt64 (116 : Int32)) : Int64) = iL (pkw 4 : Nat) by decide +kernel)
theorem wd_5 (σ : Sg) : f_X12_w5 108 105 103 104 116 σ = some (iL (pkw 5 : Nat), σ) := congrArg (fun x => some (x, σ)) (show ((lshl ((lshl ((lshl ((lshl (Int32.toInt64 (108 : Int32)) 8 ||| Int32.toInt64 (105 : Int32))) 8 ||| Int32.toInt64 (103 : Int32))) 8 ||| Int32.toInt64 (104 : Int32))) 8 ||| Int32.toInt64 (116 : Int32)) : Int64) = iL (pkw 5 : Nat) by decide +kernel)
theorem wd_6 (σ : Sg) : f_X12_w5 99 111 118 101 114 σ = some (iL (pkw 6 : Nat), σ) := congrArg (fun x => some (x, σ)) (show ((lshl ((lshl ((lshl ((lshl (Int32.toInt64 (99 : Int32)) 8 ||| Int32.toInt64 (111 : Int32))) 8 ||| Int32.toInt64 (118 : Int32))) 8 ||| Int32.toInt64 (101 : Int32))) 8 ||| Int32.toInt64 (114 : Int32)) : Int64) = iL (pkw 6 : Nat) by decide +kernel)
theorem wd_7 (σ : Sg) : f_X12_w4 111 112 101 110 σ = some (iL (pkw 7 : Nat), σ) := congrArg (fun x => some (x, σ)) (show ((lshl ((lshl ((lshl (Int32.toInt64 (111 : Int32)) 8 ||| Int32.toInt64 (112 : Int32))) 8 ||| Int32.toInt64 (101 : Int32))) 8 ||| Int32.toInt64 (110 : Int32)) : Int64) = iL (pkw 7 : Nat) by decide +kernel)
theorem wd_8 (σ : Sg) : f_X12_w5 102 101 116 99 104 σ = some (iL (pkw 8 : Nat), σ) := congrArg (fun x => some (x, σ)) (show ((lshl ((lshl ((lshl ((lshl (Int32.toInt64 (102 : Int32)) 8 ||| Int32.toInt64 (101 : Int32))) 8 ||| Int32.toInt64 (116 : Int32))) 8 ||| Int32.toInt64 (99 : Int32))) 8 ||| Int32.toInt64 (104 : Int32)) : Int64) = iL (pkw 8 : Nat) by decide +kernel)
theorem wd_9 (σ : Sg) : f_X12_w6 113 117 101 110 99 104 σ = some (iL (pkw 9 : Nat), σ) := congrArg (fun x => some (x, σ)) (show ((lshl ((lshl ((lshl ((lshl ((lshl (Int32.toInt64 (113 : Int32)) 8 ||| Int32.toInt64 (117 : Int32))) 8 ||| Int32.toInt64 (101 : Int32))) 8 ||| Int32.toInt64 (110 : Int32))) 8 ||| Int32.toInt64 (99 : Int32))) 8 ||| Int32.toInt64 (104 : Int32)) : Int64) = iL (pkw 9 : Nat) by decide +kernel)
theorem wd_10 (σ : Sg) : f_X12_w6 119 97 114 100 101 110 σ = some (iL (pkw 10 : Nat), σ) := congrArg (fun x => some (x, σ)) (show ((lshl ((lshl ((lshl ((lshl ((lshl (Int32.toInt64 (119 : Int32)) 8 ||| Int32.toInt64 (97 : Int32))) 8 ||| Int32.toInt64 (114 : Int32))) 8 ||| Int32.toInt64 (100 : Int32))) 8 ||| Int32.toInt64 (101 : Int32))) 8 ||| Int32.toInt64 (110 : Int32)) : Int64) = iL (pkw 10 : Nat) by decide +kernel)
theorem wd_11 (σ : Sg) : f_X12_w4 104 111 117 114 σ = some (iL (pkw 11 : Nat), σ) := congrArg (fun x => some (x, σ)) (show ((lshl ((lshl ((lshl (Int32.toInt64 (104 : Int32)) 8 ||| Int32.toInt64 (111 : Int32))) 8 ||| Int32.toInt64 (117 : Int32))) 8 ||| Int32.toInt64 (114 : Int32)) : Int64) = iL (pkw 11 : Nat) by decide +kernel)
theorem wd_12 (σ : Sg) : f_X12_w4 98 101 108 108 σ = some (iL (pkw 12 : Nat), σ) := congrArg (fun x => some (x, σ)) (show ((lshl ((lshl ((lshl (Int32.toInt64 (98 : Int32)) 8 ||| Int32.toInt64 (101 : Int32))) 8 ||| Int32.toInt64 (108 : Int32))) 8 ||| Int32.toInt64 (108 : Int32)) : Int64) = iL (pkw 12 : Nat) by decide +kernel)
theorem wd_13 (σ : Sg) : f_X12_w4 119 105 110 100 σ = some (iL (pkw 13 : Nat), σ) := congrArg (fun x => some (x, σ)) (show ((lshl ((lshl ((lshl (Int32.toInt64 (119 : Int32)) 8 ||| Int32.toInt64 (105 : Int32))) 8 ||| Int32.toInt64 (110 : Int32))) 8 ||| Int32.toInt64 (100 : Int32)) : Int64) = iL (pkw 13 : Nat) by decide +kernel)
theorem wd_14 (σ : Sg) : f_X12_w3 119 104 111 σ = some (iL (pkw 14 : Nat), σ) := congrArg (fun x => some (x, σ)) (show ((lshl ((lshl (Int32.toInt64 (119 : Int32)) 8 ||| Int32.toInt64 (104 : Int32))) 8 ||| Int32.toInt64 (111 : Int32)) : Int64) = iL (pkw 14 : Nat) by decide +kernel)
theorem wd_15 (σ : Sg) : f_X12_w4 119 111 111 100 σ = some (iL (pkw 15 : Nat), σ) := congrArg (fun x => some (x, σ)) (show ((lshl ((lshl ((lshl (Int32.toInt64 (119 : Int32)) 8 ||| Int32.toInt64 (111 : Int32))) 8 ||| Int32.toInt64 (111 : Int32))) 8 ||| Int32.toInt64 (100 : Int32)) : Int64) = iL (pkw 15 : Nat) by decide +kernel)
theorem wd_16 (σ : Sg) : f_X12_w4 102 105 114 101 σ = some (iL (pkw 16 : Nat), σ) := congrArg (fun x => some (x, σ)) (show ((lshl ((lshl ((lshl (Int32.toInt64 (102 : Int32)) 8 ||| Int32.toInt64 (105 : Int32))) 8 ||| Int32.toInt64 (114 : Int32))) 8 ||| Int32.toInt64 (101 : Int32)) : Int64) = iL (pkw 16 : Nat) by decide +kernel)
theorem wd_17 (σ : Sg) : f_X12_w4 104 101 97 116 σ = some (iL (pkw 17 : Nat), σ) := congrArg (fun x => some (x, σ)) (show ((lshl ((lshl ((lshl (Int32.toInt64 (104 : Int32)) 8 ||| Int32.toInt64 (101 : Int32))) 8 ||| Int32.toInt64 (97 : Int32))) 8 ||| Int32.toInt64 (116 : Int32)) : Int64) = iL (pkw 17 : Nat) by decide +kernel)
theorem wd_18 (σ : Sg) : f_X12_w4 110 101 97 114 σ = some (iL (pkw 18 : Nat), σ) := congrArg (fun x => some (x, σ)) (show ((lshl ((lshl ((lshl (Int32.toInt64 (110 : Int32)) 8 ||| Int32.toInt64 (101 : Int32))) 8 ||| Int32.toInt64 (97 : Int32))) 8 ||| Int32.toInt64 (114 : Int32)) : Int64) = iL (pkw 18 : Nat) by decide +kernel)
theorem wd_19 (σ : Sg) : f_X12_w5 112 117 114 115 101 σ = some (iL (pkw 19 : Nat), σ) := congrArg (fun x => some (x, σ)) (show ((lshl ((lshl ((lshl ((lshl (Int32.toInt64 (112 : Int32)) 8 ||| Int32.toInt64 (117 : Int32))) 8 ||| Int32.toInt64 (114 : Int32))) 8 ||| Int32.toInt64 (115 : Int32))) 8 ||| Int32.toInt64 (101 : Int32)) : Int64) = iL (pkw 19 : Nat) by decide +kernel)
theorem wd_20 (σ : Sg) : f_X12_w5 99 111 105 110 115 σ = some (iL (pkw 20 : Nat), σ) := congrArg (fun x => some (x, σ)) (show ((lshl ((lshl ((lshl ((lshl (Int32.toInt64 (99 : Int32)) 8 ||| Int32.toInt64 (111 : Int32))) 8 ||| Int32.toInt64 (105 : Int32))) 8 ||| Int32.toInt64 (110 : Int32))) 8 ||| Int32.toInt64 (115 : Int32)) : Int64) = iL (pkw 20 : Nat) by decide +kernel)
theorem wd_21 (σ : Sg) : f_X12_w2 116 111 σ = some (iL (pkw 21 : Nat), σ) := congrArg (fun x => some (x, σ)) (show ((lshl (Int32.toInt64 (116 : Int32)) 8 ||| Int32.toInt64 (111 : Int32)) : Int64) = iL (pkw 21 : Nat) by decide +kernel)
theorem wd_22 (σ : Sg) : f_X12_w2 111 102 σ = some (iL (pkw 22 : Nat), σ) := congrArg (fun x => some (x, σ)) (show ((lshl (Int32.toInt64 (111 : Int32)) 8 ||| Int32.toInt64 (102 : Int32)) : Int64) = iL (pkw 22 : Nat) by decide +kernel)
theorem wd_23 (σ : Sg) : f_X12_w4 102 114 111 109 σ = some (iL (pkw 23 : Nat), σ) := congrArg (fun x => some (x, σ)) (show ((lshl ((lshl ((lshl (Int32.toInt64 (102 : Int32)) 8 ||| Int32.toInt64 (114 : Int32))) 8 ||| Int32.toInt64 (111 : Int32))) 8 ||| Int32.toInt64 (109 : Int32)) : Int64) = iL (pkw 23 : Nat) by decide +kernel)
theorem wd_24 (σ : Sg) : f_X12_w2 105 102 σ = some (iL (pkw 24 : Nat), σ) := congrArg (fun x => some (x, σ)) (show ((lshl (Int32.toInt64 (105 : Int32)) 8 ||| Int32.toInt64 (102 : Int32)) : Int64) = iL (pkw 24 : Nat) by decide +kernel)
theorem wd_25 (σ : Sg) : f_X12_w4 116 104 101 110 σ = some (iL (pkw 25 : Nat), σ) := congrArg (fun x => some (x, σ)) (show ((lshl ((lshl ((lshl (Int32.toInt64 (116 : Int32)) 8 ||| Int32.toInt64 (104 : Int32))) 8 ||| Int32.toInt64 (101 : Int32))) 8 ||| Int32.toInt64 (110 : Int32)) : Int64) = iL (pkw 25 : Nat) by decide +kernel)
theorem wd_26 (σ : Sg) : f_X12_w4 101 108 115 101 σ = some (iL (pkw 26 : Nat), σ) := congrArg (fun x => some (x, σ)) (show ((lshl ((lshl ((lshl (Int32.toInt64 (101 : Int32)) 8 ||| Int32.toInt64 (108 : Int32))) 8 ||| Int32.toInt64 (115 : Int32))) 8 ||| Int32.toInt64 (101 : Int32)) : Int64) = iL (pkw 26 : Nat) by decide +kernel)
theorem wd_27 (σ : Sg) : f_X12_w3 101 110 100 σ = some (iL (pkw 27 : Nat), σ) := congrArg (fun x => some (x, σ)) (show ((lshl ((lshl (Int32.toInt64 (101 : Int32)) 8 ||| Int32.toInt64 (110 : Int32))) 8 ||| Int32.toInt64 (100 : Int32)) : Int64) = iL (pkw 27 : Nat) by decide +kernel)
theorem wd_28 (σ : Sg) : f_X12_w3 97 110 100 σ = some (iL (pkw 28 : Nat), σ) := congrArg (fun x => some (x, σ)) (show ((lshl ((lshl (Int32.toInt64 (97 : Int32)) 8 ||| Int32.toInt64 (110 : Int32))) 8 ||| Int32.toInt64 (100 : Int32)) : Int64) = iL (pkw 28 : Nat) by decide +kernel)
theorem wd_29 (σ : Sg) : f_X12_w2 111 114 σ = some (iL (pkw 29 : Nat), σ) := congrArg (fun x => some (x, σ)) (show ((lshl (Int32.toInt64 (111 : Int32)) 8 ||| Int32.toInt64 (114 : Int32)) : Int64) = iL (pkw 29 : Nat) by decide +kernel)
theorem wd_47 (σ : Sg) : f_X12_w4 119 97 114 109 σ = some (iL (pkw 47 : Nat), σ) := congrArg (fun x => some (x, σ)) (show ((lshl ((lshl ((lshl (Int32.toInt64 (119 : Int32)) 8 ||| Int32.toInt64 (97 : Int32))) 8 ||| Int32.toInt64 (114 : Int32))) 8 ||| Int32.toInt64 (109 : Int32)) : Int64) = iL (pkw 47 : Nat) by decide +kernel)
theorem wd_48 (σ : Sg) : f_X12_w3 110 111 116 σ = some (iL (pkw 48 : Nat), σ) := congrArg (fun x => some (x, σ)) (show ((lshl ((lshl (Int32.toInt64 (110 : Int32)) 8 ||| Int32.toInt64 (111 : Int32))) 8 ||| Int32.toInt64 (116 : Int32)) : Int64) = iL (pkw 48 : Nat) by decide +kernel)
theorem wd_49 (σ : Sg) : f_X12_w3 111 100 100 σ = some (iL (pkw 49 : Nat), σ) := congrArg (fun x => some (x, σ)) (show ((lshl ((lshl (Int32.toInt64 (111 : Int32)) 8 ||| Int32.toInt64 (100 : Int32))) 8 ||| Int32.toInt64 (100 : Int32)) : Int64) = iL (pkw 49 : Nat) by decide +kernel)
theorem wd_50 (σ : Sg) : f_X12_w4 101 118 101 110 σ = some (iL (pkw 50 : Nat), σ) := congrArg (fun x => some (x, σ)) (show ((lshl ((lshl ((lshl (Int32.toInt64 (101 : Int32)) 8 ||| Int32.toInt64 (118 : Int32))) 8 ||| Int32.toInt64 (101 : Int32))) 8 ||| Int32.toInt64 (110 : Int32)) : Int64) = iL (pkw 50 : Nat) by decide +kernel)
theorem m_tok {σ : Sg} {k v j : Nat} (h : TM σ k v) (hk : k ≤ 50) (hj : 30 ≤ j ∧ j ≤ 42) : (σ.1 0 9 = nI (sgn j)) = (k = j) := by
  have bj := sgn_b j hj.2 hj.1
  have no : ∀ x, x < 1000 → x ≠ sgn j → σ.1 0 9 = nI x → ¬ k = j → (σ.1 0 9 = nI (sgn j)) = (k = j) := fun x hx h2 e hkj => by
    rw [e]
    exact propext ⟨fun q => absurd ((nI_eq (by omega) (by omega)).mp q) h2, fun q => absurd q hkj⟩
  rcases h with ⟨h1, h2⟩ | ⟨h1, h2, _⟩ | ⟨h1, h2⟩ | ⟨h1, h2 | h2⟩ | ⟨h1, h2, _⟩
  · exact no 0 (by decide) (by omega) h2 (by omega)
  · exact no 1 (by decide) (by omega) h2 (by omega)
  · have bk := sgn_b k h1.2 h1.1
    rw [h2]
    exact propext ⟨fun q => (sgn_t k h1.2 h1.1 j hj.2 hj.1).mp ((nI_eq (by omega) (by omega)).mp q), fun q => by rw [q]⟩
  · exact no 3 (by decide) (by omega) h2 (by omega)
  · exact no 58 (by decide) (by omega) h2 (by omega)
  · exact no 2 (by decide) (by omega) h2 (by unfold isW at h1; omega)
theorem m_tok1 {σ : Sg} {k v : Nat} (h : TM σ k v) (hk : k ≤ 50) : (σ.1 0 9 = nI 1) = (k = 43) := by
  have no : ∀ x, x < 1000 → x ≠ 1 → σ.1 0 9 = nI x → ¬ k = 43 → (σ.1 0 9 = nI 1) = (k = 43) := fun x hx h2 e hkj => by
    rw [e]
    exact propext ⟨fun q => absurd ((nI_eq (by omega) (by decide)).mp q) h2, fun q => absurd q hkj⟩
  rcases h with ⟨h1, h2⟩ | ⟨h1, h2, _⟩ | ⟨h1, h2⟩ | ⟨h1, h2 | h2⟩ | ⟨h1, h2, _⟩
  · exact no 0 (by decide) (by omega) h2 (by omega)
  · rw [h2]
    exact propext ⟨fun _ => h1, fun _ => rfl⟩
  · have := sgn_b k h1.2 h1.1
    exact no _ (by omega) (by omega) h2 (by omega)
  · exact no 3 (by decide) (by decide) h2 (by omega)
  · exact no 58 (by decide) (by decide) h2 (by omega)
  · exact no 2 (by decide) (by decide) h2 (by unfold isW at h1; omega)
theorem m_tok0 {σ : Sg} {k v : Nat} (h : TM σ k v) (hk : k ≤ 50) : (σ.1 0 9 = nI 0) = (k = 45) := by
  have no : ∀ x, x < 1000 → x ≠ 0 → σ.1 0 9 = nI x → ¬ k = 45 → (σ.1 0 9 = nI 0) = (k = 45) := fun x hx h2 e hkj => by
    rw [e]
    exact propext ⟨fun q => absurd ((nI_eq (by omega) (by decide)).mp q) h2, fun q => absurd q hkj⟩
  rcases h with ⟨h1, h2⟩ | ⟨h1, h2, _⟩ | ⟨h1, h2⟩ | ⟨h1, h2 | h2⟩ | ⟨h1, h2, _⟩
  · rw [h2]
    exact propext ⟨fun _ => h1, fun _ => rfl⟩
  · exact no 1 (by decide) (by decide) h2 (by omega)
  · have := sgn_b k h1.2 h1.1
    exact no _ (by omega) (by omega) h2 (by omega)
  · exact no 3 (by decide) (by decide) h2 (by omega)
  · exact no 58 (by decide) (by decide) h2 (by omega)
  · exact no 2 (by decide) (by decide) h2 (by unfold isW at h1; omega)
theorem m_tok2 {σ : Sg} {k v : Nat} (h : TM σ k v) (hk : k ≤ 50) (hw : isW k) : σ.1 0 9 = nI 2 := by
  rcases h with ⟨h1, h2⟩ | ⟨h1, h2, _⟩ | ⟨h1, h2⟩ | ⟨h1, h2⟩ | ⟨h1, h2, _⟩
  · unfold isW at hw; omega
  · unfold isW at hw; omega
  · unfold isW at hw; omega
  · unfold isW at hw; omega
  · exact h2
theorem m_nameOf {σ : Sg} {k v : Nat} (h : TM σ k v) (hk : k ≤ 50) : f_X12_nameOf σ = some (if 11 ≤ k ∧ k ≤ 19 then nI (k - 11) else -1, σ) := by
  unfold f_X12_nameOf f_X12_nameOf_207
  by_cases t2 : σ.1 0 9 = nI 2
  · have h' := h
    rcases h' with ⟨h1, h2⟩ | ⟨h1, h2, _⟩ | ⟨h1, h2⟩ | ⟨h1, h2 | h2⟩ | ⟨h1, h2, w, h3, h4, h5⟩
    · rw [h2] at t2; exact absurd t2 (by decide)
    · rw [h2] at t2; exact absurd t2 (by decide)
    · have := sgn_b k h1.2 h1.1
      rw [h2] at t2
      exact absurd ((nI_eq (by omega) (by decide)).mp t2) (by omega)
    · rw [h2] at t2; exact absurd t2 (by decide)
    · rw [h2] at t2; exact absurd t2 (by decide)
    · have c : ∀ j, isW j → j ≠ 1 → j ≤ 50 → (lg_cmp (σ.2.1 0 11) (iL (pkw j : Nat)) = 0) = (k = j) := fun j j1 j2 j3 => by
        have pj := pkw_lt j j3
        rw [h4]
        exact ((cmp_eq (x := iL (w : Nat)) (y := iL (pkw j : Nat))).trans (iL_eq (by omega) (by omega))).trans (propext ⟨fun q => (h5 j j1 j2).mp (by omega), fun q => by have := (h5 j j1 j2).mpr q; omega⟩)
      have iw : ∀ j, 11 ≤ j → j ≤ 19 → isW j := fun j _ _ => by unfold isW; omega
      rw [if_pos (show σ.1 0 9 = 2 from t2)]
      have d11 := c 11 (iw _ (by decide) (by decide)) (by decide) (by decide)
      have d12 := c 12 (iw _ (by decide) (by decide)) (by decide) (by decide)
      have d13 := c 13 (iw _ (by decide) (by decide)) (by decide) (by decide)
      have d14 := c 14 (iw _ (by decide) (by decide)) (by decide) (by decide)
      have d15 := c 15 (iw _ (by decide) (by decide)) (by decide) (by decide)
      have d16 := c 16 (iw _ (by decide) (by decide)) (by decide) (by decide)
      have d17 := c 17 (iw _ (by decide) (by decide)) (by decide) (by decide)
      have d18 := c 18 (iw _ (by decide) (by decide)) (by decide) (by decide)
      have d19 := c 19 (iw _ (by decide) (by decide)) (by decide) (by decide)
      rw [wd_11, e_bnd]
      by_cases z11 : k = 11
      · rw [if_pos (d11.mpr z11), if_pos (by omega), z11]
        rfl
      rw [if_neg (fun q => z11 (d11.mp q))]
      rw [wd_12, e_bnd]
      by_cases z12 : k = 12
      · rw [if_pos (d12.mpr z12), if_pos (by omega), z12]
        rfl
      rw [if_neg (fun q => z12 (d12.mp q))]
      rw [wd_13, e_bnd]
      by_cases z13 : k = 13
      · rw [if_pos (d13.mpr z13), if_pos (by omega), z13]
        rfl
      rw [if_neg (fun q => z13 (d13.mp q))]
      rw [wd_14, e_bnd]
      by_cases z14 : k = 14
      · rw [if_pos (d14.mpr z14), if_pos (by omega), z14]
        rfl
      rw [if_neg (fun q => z14 (d14.mp q))]
      rw [wd_15, e_bnd]
      by_cases z15 : k = 15
      · rw [if_pos (d15.mpr z15), if_pos (by omega), z15]
        rfl
      rw [if_neg (fun q => z15 (d15.mp q))]
      rw [wd_16, e_bnd]
      by_cases z16 : k = 16
      · rw [if_pos (d16.mpr z16), if_pos (by omega), z16]
        rfl
      rw [if_neg (fun q => z16 (d16.mp q))]
      rw [wd_17, e_bnd]
      by_cases z17 : k = 17
      · rw [if_pos (d17.mpr z17), if_pos (by omega), z17]
        rfl
      rw [if_neg (fun q => z17 (d17.mp q))]
      rw [wd_18, e_bnd]
      by_cases z18 : k = 18
      · rw [if_pos (d18.mpr z18), if_pos (by omega), z18]
        rfl
      rw [if_neg (fun q => z18 (d18.mp q))]
      rw [wd_19, e_bnd]
      by_cases z19 : k = 19
      · rw [if_pos (d19.mpr z19), if_pos (by omega), z19]
        rfl
      rw [if_neg (fun q => z19 (d19.mp q))]
      rw [if_neg (by omega)]
  · have nw : ¬ (11 ≤ k ∧ k ≤ 19) := fun q => t2 (m_tok2 h hk (by unfold isW; omega))
    rw [if_neg (show ¬ (σ.1 0 9 = 2) from t2), if_neg nw]
