-- methods that are functions; written out by gen20.py
def r_X6_home (x0 : Int32) : Int64 := (-81985529216486896 : Int64) &&& (r_X6_lowest x0)
set_option maxRecDepth 20000 in
theorem c_X6_home {d : Nat} {h : Hp} (x0 : Int32)  {Q : Option Value → Hp → Prop} (k : Q (some (.long (r_X6_home x0))) h) : Call (d + 1) MX6_home [.int x0] h Q := by
  show At (d + 1) MX6_home 0 [.int x0] [] h Q
  refine At_ldc2 (v := (-81985529216486896 : Int64)) (pc' := 3) iX6_home_0 rfl rfl ?_
  refine At_iload_n (pc' := 4) iX6_home_3 rfl rfl ?_
  refine At_stat (pc' := 7) iX6_home_4 rfl m_6_13 rfl rfl (Nat.le_of_ble_eq_true rfl) (Nat.le_of_ble_eq_true rfl) (Nat.le_of_ble_eq_true rfl) ?_
  refine c_X6_lowest (h := h) x0   (show At (d + 1) MX6_home 7 [.int x0] [.long (r_X6_lowest x0), .long (-81985529216486896 : Int64)] h Q from ?_)
  refine At_land (pc' := 8) iX6_home_7 rfl ?_
  simp only [r_X6_home] at k
  exact At_retJ iX6_home_8 rfl k
def r_X6_lifted (x0 : Int64) (x2 : Int32) (x3 : Int32) : Int64 := ((((x0 &&& (r_X6_lowest x2)) ||| (lshl (lushr (lushr x0 ((nI 4) * x2)) (nI 4)) ((nI 4) * x2))) &&& (r_X6_lowest x3)) ||| (lshl (lshl (lushr ((x0 &&& (r_X6_lowest x2)) ||| (lshl (lushr (lushr x0 ((nI 4) * x2)) (nI 4)) ((nI 4) * x2))) ((nI 4) * x3)) ((nI 4) * x3)) (nI 4))) ||| (lshl ((r_X6_get x0 x2).toInt64) ((nI 4) * x3))
set_option maxRecDepth 20000 in
theorem c_X6_lifted {d : Nat} {h : Hp} (x0 : Int64) (x2 : Int32) (x3 : Int32)  {Q : Option Value → Hp → Prop} (k : Q (some (.long (r_X6_lifted x0 x2 x3))) h) : Call (d + 1) MX6_lifted [.long x0, .int x2, .int x3] h Q := by
  show At (d + 1) MX6_lifted 0 [.long x0, un, .int x2, .int x3, un, un, un, un, un, un, un, un, un, un] [] h Q
  refine At_lload_n (pc' := 1) iX6_lifted_0 rfl rfl ?_
  refine At_iload_n (pc' := 2) iX6_lifted_1 rfl rfl ?_
  refine At_stat (pc' := 5) iX6_lifted_2 rfl m_6_13 rfl rfl (Nat.le_of_ble_eq_true rfl) (Nat.le_of_ble_eq_true rfl) (Nat.le_of_ble_eq_true rfl) ?_
  refine c_X6_lowest (h := h) x2   (show At (d + 1) MX6_lifted 5 [.long x0, un, .int x2, .int x3, un, un, un, un, un, un, un, un, un, un] [.long (r_X6_lowest x2), .long x0] h Q from ?_)
  refine At_land (pc' := 6) iX6_lifted_5 rfl ?_
  refine At_lstore (L' := [.long x0, un, .int x2, .int x3, .long (x0 &&& (r_X6_lowest x2)), un, un, un, un, un, un, un, un, un]) (pc' := 8) iX6_lifted_6 rfl (Nat.le_of_ble_eq_true rfl) rfl ?_
  refine At_lload_n (pc' := 9) iX6_lifted_8 rfl rfl ?_
  refine At_iconst (v := nI 4) (pc' := 10) iX6_lifted_9 rfl (by decide) ?_
  refine At_iload_n (pc' := 11) iX6_lifted_10 rfl rfl ?_
  refine At_imul (pc' := 12) iX6_lifted_11 rfl ?_
  refine At_lushr (pc' := 13) iX6_lifted_12 rfl ?_
  refine At_iconst (v := nI 4) (pc' := 14) iX6_lifted_13 rfl (by decide) ?_
  refine At_lushr (pc' := 15) iX6_lifted_14 rfl ?_
  refine At_lstore (L' := [.long x0, un, .int x2, .int x3, .long (x0 &&& (r_X6_lowest x2)), un, .long (lushr (lushr x0 ((nI 4) * x2)) (nI 4)), un, un, un, un, un, un, un]) (pc' := 17) iX6_lifted_15 rfl (Nat.le_of_ble_eq_true rfl) rfl ?_
  refine At_lload (pc' := 19) iX6_lifted_17 rfl rfl ?_
  refine At_lload (pc' := 21) iX6_lifted_19 rfl rfl ?_
  refine At_iconst (v := nI 4) (pc' := 22) iX6_lifted_21 rfl (by decide) ?_
  refine At_iload_n (pc' := 23) iX6_lifted_22 rfl rfl ?_
  refine At_imul (pc' := 24) iX6_lifted_23 rfl ?_
  refine At_lshl (pc' := 25) iX6_lifted_24 rfl ?_
  refine At_lor (pc' := 26) iX6_lifted_25 rfl ?_
  refine At_lstore (L' := [.long x0, un, .int x2, .int x3, .long (x0 &&& (r_X6_lowest x2)), un, .long (lushr (lushr x0 ((nI 4) * x2)) (nI 4)), un, .long ((x0 &&& (r_X6_lowest x2)) ||| (lshl (lushr (lushr x0 ((nI 4) * x2)) (nI 4)) ((nI 4) * x2))), un, un, un, un, un]) (pc' := 28) iX6_lifted_26 rfl (Nat.le_of_ble_eq_true rfl) rfl ?_
  refine At_lload (pc' := 30) iX6_lifted_28 rfl rfl ?_
  refine At_iload_n (pc' := 31) iX6_lifted_30 rfl rfl ?_
  refine At_stat (pc' := 34) iX6_lifted_31 rfl m_6_13 rfl rfl (Nat.le_of_ble_eq_true rfl) (Nat.le_of_ble_eq_true rfl) (Nat.le_of_ble_eq_true rfl) ?_
  refine c_X6_lowest (h := h) x3   (show At (d + 1) MX6_lifted 34 [.long x0, un, .int x2, .int x3, .long (x0 &&& (r_X6_lowest x2)), un, .long (lushr (lushr x0 ((nI 4) * x2)) (nI 4)), un, .long ((x0 &&& (r_X6_lowest x2)) ||| (lshl (lushr (lushr x0 ((nI 4) * x2)) (nI 4)) ((nI 4) * x2))), un, un, un, un, un] [.long (r_X6_lowest x3), .long ((x0 &&& (r_X6_lowest x2)) ||| (lshl (lushr (lushr x0 ((nI 4) * x2)) (nI 4)) ((nI 4) * x2)))] h Q from ?_)
  refine At_land (pc' := 35) iX6_lifted_34 rfl ?_
  refine At_lstore (L' := [.long x0, un, .int x2, .int x3, .long (x0 &&& (r_X6_lowest x2)), un, .long (lushr (lushr x0 ((nI 4) * x2)) (nI 4)), un, .long ((x0 &&& (r_X6_lowest x2)) ||| (lshl (lushr (lushr x0 ((nI 4) * x2)) (nI 4)) ((nI 4) * x2))), un, .long (((x0 &&& (r_X6_lowest x2)) ||| (lshl (lushr (lushr x0 ((nI 4) * x2)) (nI 4)) ((nI 4) * x2))) &&& (r_X6_lowest x3)), un, un, un]) (pc' := 37) iX6_lifted_35 rfl (Nat.le_of_ble_eq_true rfl) rfl ?_
  refine At_lload (pc' := 39) iX6_lifted_37 rfl rfl ?_
  refine At_iconst (v := nI 4) (pc' := 40) iX6_lifted_39 rfl (by decide) ?_
  refine At_iload_n (pc' := 41) iX6_lifted_40 rfl rfl ?_
  refine At_imul (pc' := 42) iX6_lifted_41 rfl ?_
  refine At_lushr (pc' := 43) iX6_lifted_42 rfl ?_
  refine At_iconst (v := nI 4) (pc' := 44) iX6_lifted_43 rfl (by decide) ?_
  refine At_iload_n (pc' := 45) iX6_lifted_44 rfl rfl ?_
  refine At_imul (pc' := 46) iX6_lifted_45 rfl ?_
  refine At_lshl (pc' := 47) iX6_lifted_46 rfl ?_
  refine At_iconst (v := nI 4) (pc' := 48) iX6_lifted_47 rfl (by decide) ?_
  refine At_lshl (pc' := 49) iX6_lifted_48 rfl ?_
  refine At_lstore (L' := [.long x0, un, .int x2, .int x3, .long (x0 &&& (r_X6_lowest x2)), un, .long (lushr (lushr x0 ((nI 4) * x2)) (nI 4)), un, .long ((x0 &&& (r_X6_lowest x2)) ||| (lshl (lushr (lushr x0 ((nI 4) * x2)) (nI 4)) ((nI 4) * x2))), un, .long (((x0 &&& (r_X6_lowest x2)) ||| (lshl (lushr (lushr x0 ((nI 4) * x2)) (nI 4)) ((nI 4) * x2))) &&& (r_X6_lowest x3)), un, .long (lshl (lshl (lushr ((x0 &&& (r_X6_lowest x2)) ||| (lshl (lushr (lushr x0 ((nI 4) * x2)) (nI 4)) ((nI 4) * x2))) ((nI 4) * x3)) ((nI 4) * x3)) (nI 4)), un]) (pc' := 51) iX6_lifted_49 rfl (Nat.le_of_ble_eq_true rfl) rfl ?_
  refine At_lload (pc' := 53) iX6_lifted_51 rfl rfl ?_
  refine At_lload (pc' := 55) iX6_lifted_53 rfl rfl ?_
  refine At_lor (pc' := 56) iX6_lifted_55 rfl ?_
  refine At_lload_n (pc' := 57) iX6_lifted_56 rfl rfl ?_
  refine At_iload_n (pc' := 58) iX6_lifted_57 rfl rfl ?_
  refine At_stat (pc' := 61) iX6_lifted_58 rfl m_6_21 rfl rfl (Nat.le_of_ble_eq_true rfl) (Nat.le_of_ble_eq_true rfl) (Nat.le_of_ble_eq_true rfl) ?_
  refine c_X6_get (h := h) x0 x2   (show At (d + 1) MX6_lifted 61 [.long x0, un, .int x2, .int x3, .long (x0 &&& (r_X6_lowest x2)), un, .long (lushr (lushr x0 ((nI 4) * x2)) (nI 4)), un, .long ((x0 &&& (r_X6_lowest x2)) ||| (lshl (lushr (lushr x0 ((nI 4) * x2)) (nI 4)) ((nI 4) * x2))), un, .long (((x0 &&& (r_X6_lowest x2)) ||| (lshl (lushr (lushr x0 ((nI 4) * x2)) (nI 4)) ((nI 4) * x2))) &&& (r_X6_lowest x3)), un, .long (lshl (lshl (lushr ((x0 &&& (r_X6_lowest x2)) ||| (lshl (lushr (lushr x0 ((nI 4) * x2)) (nI 4)) ((nI 4) * x2))) ((nI 4) * x3)) ((nI 4) * x3)) (nI 4)), un] [.int (r_X6_get x0 x2), .long ((((x0 &&& (r_X6_lowest x2)) ||| (lshl (lushr (lushr x0 ((nI 4) * x2)) (nI 4)) ((nI 4) * x2))) &&& (r_X6_lowest x3)) ||| (lshl (lshl (lushr ((x0 &&& (r_X6_lowest x2)) ||| (lshl (lushr (lushr x0 ((nI 4) * x2)) (nI 4)) ((nI 4) * x2))) ((nI 4) * x3)) ((nI 4) * x3)) (nI 4)))] h Q from ?_)
  refine At_i2l (pc' := 62) iX6_lifted_61 rfl ?_
  refine At_iconst (v := nI 4) (pc' := 63) iX6_lifted_62 rfl (by decide) ?_
  refine At_iload_n (pc' := 64) iX6_lifted_63 rfl rfl ?_
  refine At_imul (pc' := 65) iX6_lifted_64 rfl ?_
  refine At_lshl (pc' := 66) iX6_lifted_65 rfl ?_
  refine At_lor (pc' := 67) iX6_lifted_66 rfl ?_
  simp only [r_X6_lifted] at k
  exact At_retJ iX6_lifted_67 rfl k
def r_X6_swapped (x0 : Int64) (x2 : Int32) (x3 : Int32) : Int64 := r_X6_with (r_X6_with x0 x2 (r_X6_get x0 x3)) x3 (r_X6_get x0 x2)
set_option maxRecDepth 20000 in
theorem c_X6_swapped {d : Nat} {h : Hp} (x0 : Int64) (x2 : Int32) (x3 : Int32)  {Q : Option Value → Hp → Prop} (k : Q (some (.long (r_X6_swapped x0 x2 x3))) h) : Call (d + 1) MX6_swapped [.long x0, .int x2, .int x3] h Q := by
  show At (d + 1) MX6_swapped 0 [.long x0, un, .int x2, .int x3] [] h Q
  refine At_lload_n (pc' := 1) iX6_swapped_0 rfl rfl ?_
  refine At_iload_n (pc' := 2) iX6_swapped_1 rfl rfl ?_
  refine At_lload_n (pc' := 3) iX6_swapped_2 rfl rfl ?_
  refine At_iload_n (pc' := 4) iX6_swapped_3 rfl rfl ?_
  refine At_stat (pc' := 7) iX6_swapped_4 rfl m_6_21 rfl rfl (Nat.le_of_ble_eq_true rfl) (Nat.le_of_ble_eq_true rfl) (Nat.le_of_ble_eq_true rfl) ?_
  refine c_X6_get (h := h) x0 x3   (show At (d + 1) MX6_swapped 7 [.long x0, un, .int x2, .int x3] [.int (r_X6_get x0 x3), .int x2, .long x0] h Q from ?_)
  refine At_stat (pc' := 10) iX6_swapped_7 rfl m_6_25 rfl rfl (Nat.le_of_ble_eq_true rfl) (Nat.le_of_ble_eq_true rfl) (Nat.le_of_ble_eq_true rfl) ?_
  refine c_X6_with (h := h) x0 x2 (r_X6_get x0 x3)   (show At (d + 1) MX6_swapped 10 [.long x0, un, .int x2, .int x3] [.long (r_X6_with x0 x2 (r_X6_get x0 x3))] h Q from ?_)
  refine At_iload_n (pc' := 11) iX6_swapped_10 rfl rfl ?_
  refine At_lload_n (pc' := 12) iX6_swapped_11 rfl rfl ?_
  refine At_iload_n (pc' := 13) iX6_swapped_12 rfl rfl ?_
  refine At_stat (pc' := 16) iX6_swapped_13 rfl m_6_21 rfl rfl (Nat.le_of_ble_eq_true rfl) (Nat.le_of_ble_eq_true rfl) (Nat.le_of_ble_eq_true rfl) ?_
  refine c_X6_get (h := h) x0 x2   (show At (d + 1) MX6_swapped 16 [.long x0, un, .int x2, .int x3] [.int (r_X6_get x0 x2), .int x3, .long (r_X6_with x0 x2 (r_X6_get x0 x3))] h Q from ?_)
  refine At_stat (pc' := 19) iX6_swapped_16 rfl m_6_25 rfl rfl (Nat.le_of_ble_eq_true rfl) (Nat.le_of_ble_eq_true rfl) (Nat.le_of_ble_eq_true rfl) ?_
  refine c_X6_with (h := h) (r_X6_with x0 x2 (r_X6_get x0 x3)) x3 (r_X6_get x0 x2)   (show At (d + 1) MX6_swapped 19 [.long x0, un, .int x2, .int x3] [.long (r_X6_with (r_X6_with x0 x2 (r_X6_get x0 x3)) x3 (r_X6_get x0 x2))] h Q from ?_)
  simp only [r_X6_swapped] at k
  exact At_retJ iX6_swapped_19 rfl k
def r_X6_turned (x0 : Int64) (x2 : Int32) (x3 : Int32) : Int64 := if 0 < x3 then (if (irem x2 x3) = 0 then x0 else ((lshl x0 ((nI 4) * (irem x2 x3))) ||| (lushr x0 ((nI 4) * (x3 - (irem x2 x3))))) &&& (r_X6_lowest x3)) else x0
def p_X6_turned (x0 : Int64) (x2 : Int32) (x3 : Int32) : Prop := ((0 < x3) → ((¬ x3 = 0) ∧ ((((irem x2 x3) = 0) → True) ∧ (¬ ((irem x2 x3) = 0) → True)))) ∧ (¬ (0 < x3) → True)
set_option maxRecDepth 20000 in
theorem c_X6_turned {d : Nat} {h : Hp} (x0 : Int64) (x2 : Int32) (x3 : Int32)  (hp : p_X6_turned x0 x2 x3) {Q : Option Value → Hp → Prop} (k : Q (some (.long (r_X6_turned x0 x2 x3))) h) : Call (d + 1) MX6_turned [.long x0, .int x2, .int x3] h Q := by
  show At (d + 1) MX6_turned 0 [.long x0, un, .int x2, .int x3, un] [] h Q
  simp only [p_X6_turned] at hp
  refine At_iload_n (pc' := 1) iX6_turned_0 rfl rfl ?_
  refine At_if_le (t := 10) (pc' := 4) iX6_turned_1 (by decide) rfl (fun c1 => ?_) (fun c1 => ?_)
  · have hp := hp.2 c1
    refine At_iconst (v := nI 0) (pc' := 11) iX6_turned_10 rfl (by decide) ?_
    refine At_istore (L' := [.long x0, un, .int x2, .int x3, .int (nI 0)]) (pc' := 13) iX6_turned_11 rfl (Nat.le_of_ble_eq_true rfl) rfl ?_
    refine At_iload (pc' := 15) iX6_turned_13 rfl rfl ?_
    refine At_if_ne (t := 20) (pc' := 18) iX6_turned_15 (by decide) rfl (fun c15 => absurd c15 (by decide)) (fun c15 => ?_)
    refine At_lload_n (pc' := 19) iX6_turned_18 rfl rfl ?_
    simp only [r_X6_turned, if_neg c1] at k
    exact At_retJ iX6_turned_19 rfl k
  · have hp := hp.1 c1
    refine At_iload_n (pc' := 5) iX6_turned_4 rfl rfl ?_
    refine At_iload_n (pc' := 6) iX6_turned_5 rfl rfl ?_
    obtain ⟨hp1, hp⟩ := hp
    refine At_irem (pc' := 7) iX6_turned_6 rfl hp1 ?_
    refine At_goto (t := 11) iX6_turned_7 (by decide) ?_
    refine At_istore (L' := [.long x0, un, .int x2, .int x3, .int (irem x2 x3)]) (pc' := 13) iX6_turned_11 rfl (Nat.le_of_ble_eq_true rfl) rfl ?_
    refine At_iload (pc' := 15) iX6_turned_13 rfl rfl ?_
    refine At_if_ne (t := 20) (pc' := 18) iX6_turned_15 (by decide) rfl (fun c15 => ?_) (fun c15 => ?_)
    · have hp := hp.2 c15
      refine At_lload_n (pc' := 21) iX6_turned_20 rfl rfl ?_
      refine At_iconst (v := nI 4) (pc' := 22) iX6_turned_21 rfl (by decide) ?_
      refine At_iload (pc' := 24) iX6_turned_22 rfl rfl ?_
      refine At_imul (pc' := 25) iX6_turned_24 rfl ?_
      refine At_lshl (pc' := 26) iX6_turned_25 rfl ?_
      refine At_lload_n (pc' := 27) iX6_turned_26 rfl rfl ?_
      refine At_iconst (v := nI 4) (pc' := 28) iX6_turned_27 rfl (by decide) ?_
      refine At_iload_n (pc' := 29) iX6_turned_28 rfl rfl ?_
      refine At_iload (pc' := 31) iX6_turned_29 rfl rfl ?_
      refine At_isub (pc' := 32) iX6_turned_31 rfl ?_
      refine At_imul (pc' := 33) iX6_turned_32 rfl ?_
      refine At_lushr (pc' := 34) iX6_turned_33 rfl ?_
      refine At_lor (pc' := 35) iX6_turned_34 rfl ?_
      refine At_iload_n (pc' := 36) iX6_turned_35 rfl rfl ?_
      refine At_stat (pc' := 39) iX6_turned_36 rfl m_6_13 rfl rfl (Nat.le_of_ble_eq_true rfl) (Nat.le_of_ble_eq_true rfl) (Nat.le_of_ble_eq_true rfl) ?_
      refine c_X6_lowest (h := h) x3   (show At (d + 1) MX6_turned 39 [.long x0, un, .int x2, .int x3, .int (irem x2 x3)] [.long (r_X6_lowest x3), .long ((lshl x0 ((nI 4) * (irem x2 x3))) ||| (lushr x0 ((nI 4) * (x3 - (irem x2 x3)))))] h Q from ?_)
      refine At_land (pc' := 40) iX6_turned_39 rfl ?_
      simp only [r_X6_turned, if_pos c1, if_neg c15] at k
      exact At_retJ iX6_turned_40 rfl k
    · have hp := hp.1 c15
      refine At_lload_n (pc' := 19) iX6_turned_18 rfl rfl ?_
      simp only [r_X6_turned, if_pos c1, if_pos c15] at k
      exact At_retJ iX6_turned_19 rfl k
def w_X8_addRow (a : Nat) (x1 : Int32) (h : Hp) : Hp := if (gI h (a + 3) 3) < (nI 300) then (sI (sI h (a + 6) ((gI h (a + 3) 3).toNatClampNeg) (x1 ||| ((r_X6_get (gJ h a 2) x1) <<< ((nI 4) &&& 31)))) (a + 3) 3 ((gI (sI h (a + 6) ((gI h (a + 3) 3).toNatClampNeg) (x1 ||| ((r_X6_get (gJ h a 2) x1) <<< ((nI 4) &&& 31)))) (a + 3) 3) + (nI 1))) else h
def p_X8_addRow (a : Nat) (x1 : Int32) (h : Hp) : Prop := (((gI h (a + 3) 3) < (nI 300)) → ((inB (gI h (a + 3) 3) 300 = true) ∧ True)) ∧ (¬ ((gI h (a + 3) 3) < (nI 300)) → True)
theorem wT_X8_addRow (a : Nat) (x1 : Int32) (h : Hp) : (w_X8_addRow a x1 h).2.2 = h.2.2 := by
  unfold w_X8_addRow
  repeat' split
  all_goals first | rfl | (simp only [sI_T, sJ_T, cpI_T, wT_dummy]; done)
set_option maxRecDepth 20000 in
theorem c_X8_addRow {d : Nat} {T : HT} (hL : Lay T) {h : Hp} (eT : h.2.2 = T) (a : Nat) (x1 : Int32) (hA : IsX8 T a) (hp : p_X8_addRow a x1 h) {Q : Option Value → Hp → Prop} (k : Q none (w_X8_addRow a x1 h)) : Call (d + 1) MX8_addRow [.ref a, .int x1] h Q := by
  show At (d + 1) MX8_addRow 0 [.ref a, .int x1] [] h Q
  simp only [p_X8_addRow] at hp
  refine At_aload_n (pc' := 1) iX8_addRow_0 rfl rfl ?_
  refine At_getR (pc' := 4) iX8_addRow_1 rfl f_8_38 (kdK eT (X8_k0 hA)) (by decide) (rfH eT (X8_r6 hA)) ?_
  refine At_getI (pc' := 7) iX8_addRow_4 rfl f_8_111 (kdK eT (X1_k0 (X8_cord hA))) (by decide) ?_
  refine At_sipush (v := nI 300) (pc' := 10) iX8_addRow_7 rfl (by decide) ?_
  refine At_icmp_ge (t := 50) (pc' := 13) iX8_addRow_10 (by decide) rfl (fun c10 => ?_) (fun c10 => ?_)
  · have hp := hp.2 c10
    simp only [w_X8_addRow, if_neg c10] at k
    exact At_retV iX8_addRow_50 rfl k
  · have hp := hp.1 c10
    refine At_aload_n (pc' := 14) iX8_addRow_13 rfl rfl ?_
    refine At_getR (pc' := 17) iX8_addRow_14 rfl f_8_42 (kdK eT (X8_k0 hA)) (by decide) (rfH eT (X8_r7 hA)) ?_
    refine At_aload_n (pc' := 18) iX8_addRow_17 rfl rfl ?_
    refine At_getR (pc' := 21) iX8_addRow_18 rfl f_8_38 (kdK eT (X8_k0 hA)) (by decide) (rfH eT (X8_r6 hA)) ?_
    refine At_getI (pc' := 24) iX8_addRow_21 rfl f_8_111 (kdK eT (X1_k0 (X8_cord hA))) (by decide) ?_
    refine At_iload_n (pc' := 25) iX8_addRow_24 rfl rfl ?_
    refine At_aload_n (pc' := 26) iX8_addRow_25 rfl rfl ?_
    refine At_getJ (pc' := 29) iX8_addRow_26 rfl f_8_18 (kdK eT (X8_k0 hA)) (by decide) ?_
    refine At_iload_n (pc' := 30) iX8_addRow_29 rfl rfl ?_
    refine At_stat (pc' := 33) iX8_addRow_30 rfl m_8_75 rfl rfl (Nat.le_of_ble_eq_true rfl) (Nat.le_of_ble_eq_true rfl) (Nat.le_of_ble_eq_true rfl) ?_
    refine c_X6_get (h := h) (gJ h a 2) x1   (show At (d + 1) MX8_addRow 33 [.ref a, .int x1] [.int (r_X6_get (gJ h a 2) x1), .int x1, .int (gI h (a + 3) 3), .ref (a + 6)] h Q from ?_)
    refine At_iconst (v := nI 4) (pc' := 34) iX8_addRow_33 rfl (by decide) ?_
    refine At_ishl (pc' := 35) iX8_addRow_34 rfl ?_
    refine At_ior (pc' := 36) iX8_addRow_35 rfl ?_
    obtain ⟨hp1, hp⟩ := hp
    refine At_iast (pc' := 37) iX8_addRow_36 rfl (kdH eT (X8_k6 hA)) hp1 (show At (d + 1) MX8_addRow 37 [.ref a, .int x1] [] (sI h (a + 6) ((gI h (a + 3) 3).toNatClampNeg) (x1 ||| ((r_X6_get (gJ h a 2) x1) <<< ((nI 4) &&& 31)))) Q from ?_)
    refine At_aload_n (pc' := 38) iX8_addRow_37 rfl rfl ?_
    refine At_getR (pc' := 41) iX8_addRow_38 rfl f_8_38 (kdK eT (X8_k0 hA)) (by decide) (rfH eT (X8_r6 hA)) ?_
    refine At_dup (pc' := 42) iX8_addRow_41 rfl rfl ?_
    refine At_getI (pc' := 45) iX8_addRow_42 rfl f_8_111 (kdK eT (X1_k0 (X8_cord hA))) (by decide) ?_
    refine At_iconst (v := nI 1) (pc' := 46) iX8_addRow_45 rfl (by decide) ?_
    refine At_iadd (pc' := 47) iX8_addRow_46 rfl ?_
    refine At_putI (pc' := 50) iX8_addRow_47 rfl f_8_111 (kdK eT (X1_k0 (X8_cord hA))) (Or.inl rfl) (by decide) ?_
    simp only [w_X8_addRow, if_pos c10] at k
    exact At_retV iX8_addRow_50 rfl k
def r_X10_at (x1 : Int32) (x2 : Int32) (h : Hp) : Int32 := if (r_X10_isSlot x1 h) = true then (if x2 < 0 then (-1) else (if (nI 1) < x2 then (-1) else (if x2 = 0 then r_X6_get (gJ h 15 0) x1 else r_X6_get (gJ h 12 2) (r_X6_get (gJ h 15 0) x1)))) else (-1)
set_option maxRecDepth 20000 in
theorem c_X10_at {d : Nat} {T : HT} (hL : Lay T) {h : Hp} (eT : h.2.2 = T) (x1 : Int32) (x2 : Int32)  {Q : Option Value → Hp → Prop} (k : Q (some (.int (r_X10_at x1 x2 h))) h) : Call (d + 1) MX10_at [.ref 1, .int x1, .int x2] h Q := by
  show At (d + 1) MX10_at 0 [.ref 1, .int x1, .int x2, un] [] h Q
  refine At_aload_n (pc' := 1) iX10_at_0 rfl rfl ?_
  refine At_iload_n (pc' := 2) iX10_at_1 rfl rfl ?_
  refine At_virt (pc' := 5) iX10_at_2 rfl m_10_71 rfl rfl (kdK eT (kd_1 hL)) (Nat.le_of_ble_eq_true rfl) (Nat.le_of_ble_eq_true rfl) ?_
  refine c_X10_isSlot (h := h) hL eT x1   (show At (d + 1) MX10_at 5 [.ref 1, .int x1, .int x2, un] [.int (b2i (r_X10_isSlot x1 h))] h Q from ?_)
  refine At_zeq (t := 17) (pc' := 8) iX10_at_5 (by decide) rfl (fun c5 => ?_) (fun c5 => ?_)
  · refine At_iconst (v := (-1)) (pc' := 18) iX10_at_17 rfl (by decide) ?_
    simp only [r_X10_at, if_neg c5] at k
    exact At_retI iX10_at_18 rfl k
  · refine At_iload_n (pc' := 9) iX10_at_8 rfl rfl ?_
    refine At_if_lt (t := 17) (pc' := 12) iX10_at_9 (by decide) rfl (fun c9 => ?_) (fun c9 => ?_)
    · refine At_iconst (v := (-1)) (pc' := 18) iX10_at_17 rfl (by decide) ?_
      simp only [r_X10_at, if_pos c5, if_pos c9] at k
      exact At_retI iX10_at_18 rfl k
    · refine At_iload_n (pc' := 13) iX10_at_12 rfl rfl ?_
      refine At_iconst (v := nI 1) (pc' := 14) iX10_at_13 rfl (by decide) ?_
      refine At_icmp_le (t := 19) (pc' := 17) iX10_at_14 (by decide) rfl (fun c14 => ?_) (fun c14 => ?_)
      · refine At_aload_n (pc' := 20) iX10_at_19 rfl rfl ?_
        refine At_getR (pc' := 23) iX10_at_20 rfl f_10_19 (kdK eT (kd_1 hL)) (by decide) (rfH eT (rf_1_1 hL)) ?_
        refine At_getR (pc' := 26) iX10_at_23 rfl f_10_57 (kdK eT (kd_12 hL)) (by decide) (rfH eT (rf_12_6 hL)) ?_
        refine At_getJ (pc' := 29) iX10_at_26 rfl f_10_146 (kdK eT (kd_15 hL)) (by decide) ?_
        refine At_iload_n (pc' := 30) iX10_at_29 rfl rfl ?_
        refine At_stat (pc' := 33) iX10_at_30 rfl m_10_149 rfl rfl (Nat.le_of_ble_eq_true rfl) (Nat.le_of_ble_eq_true rfl) (Nat.le_of_ble_eq_true rfl) ?_
        refine c_X6_get (h := h) (gJ h 15 0) x1   (show At (d + 1) MX10_at 33 [.ref 1, .int x1, .int x2, un] [.int (r_X6_get (gJ h 15 0) x1)] h Q from ?_)
        refine At_istore_n (L' := [.ref 1, .int x1, .int x2, .int (r_X6_get (gJ h 15 0) x1)]) (pc' := 34) iX10_at_33 rfl (Nat.le_of_ble_eq_true rfl) rfl ?_
        refine At_iload_n (pc' := 35) iX10_at_34 rfl rfl ?_
        refine At_if_ne (t := 42) (pc' := 38) iX10_at_35 (by decide) rfl (fun c35 => ?_) (fun c35 => ?_)
        · refine At_aload_n (pc' := 43) iX10_at_42 rfl rfl ?_
          refine At_getR (pc' := 46) iX10_at_43 rfl f_10_19 (kdK eT (kd_1 hL)) (by decide) (rfH eT (rf_1_1 hL)) ?_
          refine At_getJ (pc' := 49) iX10_at_46 rfl f_10_78 (kdK eT (kd_12 hL)) (by decide) ?_
          refine At_iload_n (pc' := 50) iX10_at_49 rfl rfl ?_
          refine At_stat (pc' := 53) iX10_at_50 rfl m_10_149 rfl rfl (Nat.le_of_ble_eq_true rfl) (Nat.le_of_ble_eq_true rfl) (Nat.le_of_ble_eq_true rfl) ?_
          refine c_X6_get (h := h) (gJ h 12 2) (r_X6_get (gJ h 15 0) x1)   (show At (d + 1) MX10_at 53 [.ref 1, .int x1, .int x2, .int (r_X6_get (gJ h 15 0) x1)] [.int (r_X6_get (gJ h 12 2) (r_X6_get (gJ h 15 0) x1))] h Q from ?_)
          simp only [r_X10_at, if_pos c5, if_neg c9, if_neg c14, if_neg c35] at k
          exact At_retI iX10_at_53 rfl k
        · refine At_iload_n (pc' := 39) iX10_at_38 rfl rfl ?_
          refine At_goto (t := 53) iX10_at_39 (by decide) ?_
          simp only [r_X10_at, if_pos c5, if_neg c9, if_neg c14, if_pos c35] at k
          exact At_retI iX10_at_53 rfl k
      · refine At_iconst (v := (-1)) (pc' := 18) iX10_at_17 rfl (by decide) ?_
        simp only [r_X10_at, if_pos c5, if_neg c9, if_pos c14] at k
        exact At_retI iX10_at_18 rfl k
def r_X10_colour (x1 : Int32) (x2 : Int32) (h : Hp) : Bool := if (r_X10_isSlot x1 h) = true then (if (r_X10_isColour x2) = true then true else false) else false
def w_X10_colour (x1 : Int32) (x2 : Int32) (h : Hp) : Hp := if (r_X10_isSlot x1 h) = true then (if (r_X10_isColour x2) = true then (w_X2_forget (sJ h 12 2 (r_X6_with (gJ h 12 2) x1 x2))) else h) else h
theorem wT_X10_colour (x1 : Int32) (x2 : Int32) (h : Hp) : (w_X10_colour x1 x2 h).2.2 = h.2.2 := by
  unfold w_X10_colour
  repeat' split
  all_goals first | rfl | (simp only [sI_T, sJ_T, cpI_T, wT_X2_forget]; done)
set_option maxRecDepth 20000 in
theorem c_X10_colour {d : Nat} {T : HT} (hL : Lay T) {h : Hp} (eT : h.2.2 = T) (x1 : Int32) (x2 : Int32)  {Q : Option Value → Hp → Prop} (k : Q (some (.int (b2i (r_X10_colour x1 x2 h)))) (w_X10_colour x1 x2 h)) : Call (d + 1) MX10_colour [.ref 1, .int x1, .int x2] h Q := by
  show At (d + 1) MX10_colour 0 [.ref 1, .int x1, .int x2] [] h Q
  refine At_aload_n (pc' := 1) iX10_colour_0 rfl rfl ?_
  refine At_iload_n (pc' := 2) iX10_colour_1 rfl rfl ?_
  refine At_virt (pc' := 5) iX10_colour_2 rfl m_10_71 rfl rfl (kdK eT (kd_1 hL)) (Nat.le_of_ble_eq_true rfl) (Nat.le_of_ble_eq_true rfl) ?_
  refine c_X10_isSlot (h := h) hL eT x1   (show At (d + 1) MX10_colour 5 [.ref 1, .int x1, .int x2] [.int (b2i (r_X10_isSlot x1 h))] h Q from ?_)
  refine At_zeq (t := 15) (pc' := 8) iX10_colour_5 (by decide) rfl (fun c5 => ?_) (fun c5 => ?_)
  · refine At_iconst (v := nI 0) (pc' := 16) iX10_colour_15 rfl (by decide) ?_
    simp only [r_X10_colour, w_X10_colour, if_neg c5] at k
    exact At_retF iX10_colour_16 rfl k
  · refine At_iload_n (pc' := 9) iX10_colour_8 rfl rfl ?_
    refine At_stat (pc' := 12) iX10_colour_9 rfl m_10_75 rfl rfl (Nat.le_of_ble_eq_true rfl) (Nat.le_of_ble_eq_true rfl) (Nat.le_of_ble_eq_true rfl) ?_
    refine c_X10_isColour (h := h) x2   (show At (d + 1) MX10_colour 12 [.ref 1, .int x1, .int x2] [.int (b2i (r_X10_isColour x2))] h Q from ?_)
    refine At_zne (t := 17) (pc' := 15) iX10_colour_12 (by decide) rfl (fun c12 => ?_) (fun c12 => ?_)
    · refine At_aload_n (pc' := 18) iX10_colour_17 rfl rfl ?_
      refine At_getR (pc' := 21) iX10_colour_18 rfl f_10_19 (kdK eT (kd_1 hL)) (by decide) (rfH eT (rf_1_1 hL)) ?_
      refine At_aload_n (pc' := 22) iX10_colour_21 rfl rfl ?_
      refine At_getR (pc' := 25) iX10_colour_22 rfl f_10_19 (kdK eT (kd_1 hL)) (by decide) (rfH eT (rf_1_1 hL)) ?_
      refine At_getJ (pc' := 28) iX10_colour_25 rfl f_10_78 (kdK eT (kd_12 hL)) (by decide) ?_
      refine At_iload_n (pc' := 29) iX10_colour_28 rfl rfl ?_
      refine At_iload_n (pc' := 30) iX10_colour_29 rfl rfl ?_
      refine At_stat (pc' := 33) iX10_colour_30 rfl m_10_82 rfl rfl (Nat.le_of_ble_eq_true rfl) (Nat.le_of_ble_eq_true rfl) (Nat.le_of_ble_eq_true rfl) ?_
      refine c_X6_with (h := h) (gJ h 12 2) x1 x2   (show At (d + 1) MX10_colour 33 [.ref 1, .int x1, .int x2] [.long (r_X6_with (gJ h 12 2) x1 x2), .ref 12] h Q from ?_)
      refine At_putJ (pc' := 36) iX10_colour_33 rfl f_10_78 (kdK eT (kd_12 hL)) (Or.inl rfl) (by decide) ?_
      refine At_aload_n (pc' := 37) iX10_colour_36 rfl rfl ?_
      refine At_getR (pc' := 40) iX10_colour_37 rfl f_10_26 (kdK eT (kd_1 hL)) (by decide) (rfH eT (rf_1_2 hL)) ?_
      refine At_virt (pc' := 43) iX10_colour_40 rfl m_10_64 rfl rfl (kdK eT (kd_28 hL)) (Nat.le_of_ble_eq_true rfl) (Nat.le_of_ble_eq_true rfl) ?_
      refine c_X2_forget (h := sJ h 12 2 (r_X6_with (gJ h 12 2) x1 x2)) hL eT    (show At (d + 1) MX10_colour 43 [.ref 1, .int x1, .int x2] [] (w_X2_forget (sJ h 12 2 (r_X6_with (gJ h 12 2) x1 x2))) Q from ?_)
      refine At_iconst (v := nI 1) (pc' := 44) iX10_colour_43 rfl (by decide) ?_
      simp only [r_X10_colour, w_X10_colour, if_pos c5, if_pos c12] at k
      exact At_retT iX10_colour_44 rfl k
    · refine At_iconst (v := nI 0) (pc' := 16) iX10_colour_15 rfl (by decide) ?_
      simp only [r_X10_colour, w_X10_colour, if_pos c5, if_neg c12] at k
      exact At_retF iX10_colour_16 rfl k
def r_X10_name (x1 : Int32) (x2 : Int32) (h : Hp) : Bool := if x1 < 0 then false else (if x1 < (nI 30) then (if x2 = (-1) then true else (if (r_X10_isColour x2) = true then true else false)) else false)
def w_X10_name (x1 : Int32) (x2 : Int32) (h : Hp) : Hp := if x1 < 0 then h else (if x1 < (nI 30) then (if x2 = (-1) then (sI h 13 x1.toNatClampNeg x2) else (if (r_X10_isColour x2) = true then (sI h 13 x1.toNatClampNeg x2) else h)) else h)
def p_X10_name (x1 : Int32) (x2 : Int32) (h : Hp) : Prop := ((x1 < 0) → True) ∧ (¬ (x1 < 0) → (((x1 < (nI 30)) → (((x2 = (-1)) → ((inB x1 30 = true) ∧ True)) ∧ (¬ (x2 = (-1)) → ((((r_X10_isColour x2) = true) → ((inB x1 30 = true) ∧ True)) ∧ (¬ ((r_X10_isColour x2) = true) → True))))) ∧ (¬ (x1 < (nI 30)) → True)))
theorem wT_X10_name (x1 : Int32) (x2 : Int32) (h : Hp) : (w_X10_name x1 x2 h).2.2 = h.2.2 := by
  unfold w_X10_name
  repeat' split
  all_goals first | rfl | (simp only [sI_T, sJ_T, cpI_T, wT_dummy]; done)
set_option maxRecDepth 20000 in
theorem c_X10_name {d : Nat} {T : HT} (hL : Lay T) {h : Hp} (eT : h.2.2 = T) (x1 : Int32) (x2 : Int32)  (hp : p_X10_name x1 x2 h) {Q : Option Value → Hp → Prop} (k : Q (some (.int (b2i (r_X10_name x1 x2 h)))) (w_X10_name x1 x2 h)) : Call (d + 1) MX10_name [.ref 1, .int x1, .int x2] h Q := by
  show At (d + 1) MX10_name 0 [.ref 1, .int x1, .int x2] [] h Q
  simp only [p_X10_name] at hp
  refine At_iload_n (pc' := 1) iX10_name_0 rfl rfl ?_
  refine At_if_lt (t := 22) (pc' := 4) iX10_name_1 (by decide) rfl (fun c1 => ?_) (fun c1 => ?_)
  · have hp := hp.1 c1
    refine At_iconst (v := nI 0) (pc' := 23) iX10_name_22 rfl (by decide) ?_
    simp only [r_X10_name, w_X10_name, if_pos c1] at k
    exact At_retF iX10_name_23 rfl k
  · have hp := hp.2 c1
    refine At_iload_n (pc' := 5) iX10_name_4 rfl rfl ?_
    refine At_bipush (v := nI 30) (pc' := 7) iX10_name_5 rfl (by decide) ?_
    refine At_icmp_ge (t := 22) (pc' := 10) iX10_name_7 (by decide) rfl (fun c7 => ?_) (fun c7 => ?_)
    · have hp := hp.2 c7
      refine At_iconst (v := nI 0) (pc' := 23) iX10_name_22 rfl (by decide) ?_
      simp only [r_X10_name, w_X10_name, if_neg c1, if_neg c7] at k
      exact At_retF iX10_name_23 rfl k
    · have hp := hp.1 c7
      refine At_iload_n (pc' := 11) iX10_name_10 rfl rfl ?_
      refine At_iconst (v := (-1)) (pc' := 12) iX10_name_11 rfl (by decide) ?_
      refine At_icmp_eq (t := 24) (pc' := 15) iX10_name_12 (by decide) rfl (fun c12 => ?_) (fun c12 => ?_)
      · have hp := hp.1 c12
        refine At_aload_n (pc' := 25) iX10_name_24 rfl rfl ?_
        refine At_getR (pc' := 28) iX10_name_25 rfl f_10_19 (kdK eT (kd_1 hL)) (by decide) (rfH eT (rf_1_1 hL)) ?_
        refine At_getR (pc' := 31) iX10_name_28 rfl f_10_223 (kdK eT (kd_12 hL)) (by decide) (rfH eT (rf_12_4 hL)) ?_
        refine At_iload_n (pc' := 32) iX10_name_31 rfl rfl ?_
        refine At_iload_n (pc' := 33) iX10_name_32 rfl rfl ?_
        obtain ⟨hp1, hp⟩ := hp
        refine At_iast (pc' := 34) iX10_name_33 rfl (kdH eT (kd_13 hL)) hp1 (show At (d + 1) MX10_name 34 [.ref 1, .int x1, .int x2] [] (sI h 13 x1.toNatClampNeg x2) Q from ?_)
        refine At_iconst (v := nI 1) (pc' := 35) iX10_name_34 rfl (by decide) ?_
        simp only [r_X10_name, w_X10_name, if_neg c1, if_pos c7, if_pos c12] at k
        exact At_retT iX10_name_35 rfl k
      · have hp := hp.2 c12
        refine At_iload_n (pc' := 16) iX10_name_15 rfl rfl ?_
        refine At_stat (pc' := 19) iX10_name_16 rfl m_10_75 rfl rfl (Nat.le_of_ble_eq_true rfl) (Nat.le_of_ble_eq_true rfl) (Nat.le_of_ble_eq_true rfl) ?_
        refine c_X10_isColour (h := h) x2   (show At (d + 1) MX10_name 19 [.ref 1, .int x1, .int x2] [.int (b2i (r_X10_isColour x2))] h Q from ?_)
        refine At_zne (t := 24) (pc' := 22) iX10_name_19 (by decide) rfl (fun c19 => ?_) (fun c19 => ?_)
        · have hp := hp.1 c19
          refine At_aload_n (pc' := 25) iX10_name_24 rfl rfl ?_
          refine At_getR (pc' := 28) iX10_name_25 rfl f_10_19 (kdK eT (kd_1 hL)) (by decide) (rfH eT (rf_1_1 hL)) ?_
          refine At_getR (pc' := 31) iX10_name_28 rfl f_10_223 (kdK eT (kd_12 hL)) (by decide) (rfH eT (rf_12_4 hL)) ?_
          refine At_iload_n (pc' := 32) iX10_name_31 rfl rfl ?_
          refine At_iload_n (pc' := 33) iX10_name_32 rfl rfl ?_
          obtain ⟨hp2, hp⟩ := hp
          refine At_iast (pc' := 34) iX10_name_33 rfl (kdH eT (kd_13 hL)) hp2 (show At (d + 1) MX10_name 34 [.ref 1, .int x1, .int x2] [] (sI h 13 x1.toNatClampNeg x2) Q from ?_)
          refine At_iconst (v := nI 1) (pc' := 35) iX10_name_34 rfl (by decide) ?_
          simp only [r_X10_name, w_X10_name, if_neg c1, if_pos c7, if_neg c12, if_pos c19] at k
          exact At_retT iX10_name_35 rfl k
        · have hp := hp.2 c19
          refine At_iconst (v := nI 0) (pc' := 23) iX10_name_22 rfl (by decide) ?_
          simp only [r_X10_name, w_X10_name, if_neg c1, if_pos c7, if_neg c12, if_neg c19] at k
          exact At_retF iX10_name_23 rfl k
def r_X10_outside (x1 : Int32) (x2 : Int32) (h : Hp) : Int32 := if x1 < 0 then (-1) else (if x1 < (gI h 15 3) then (if x2 < 0 then (-1) else (if (nI 1) < x2 then (-1) else r_X8_rowPart 12 x1 x2 h)) else (-1))
def p_X10_outside (x1 : Int32) (x2 : Int32) (h : Hp) : Prop := ((x1 < 0) → True) ∧ (¬ (x1 < 0) → (((x1 < (gI h 15 3)) → (((x2 < 0) → True) ∧ (¬ (x2 < 0) → ((((nI 1) < x2) → True) ∧ (¬ ((nI 1) < x2) → ((p_X8_rowPart 12 x1 x2 h) ∧ True)))))) ∧ (¬ (x1 < (gI h 15 3)) → True)))
set_option maxRecDepth 20000 in
theorem c_X10_outside {d : Nat} {T : HT} (hL : Lay T) {h : Hp} (eT : h.2.2 = T) (x1 : Int32) (x2 : Int32)  (hp : p_X10_outside x1 x2 h) {Q : Option Value → Hp → Prop} (k : Q (some (.int (r_X10_outside x1 x2 h))) h) : Call (d + 1) MX10_outside [.ref 1, .int x1, .int x2] h Q := by
  show At (d + 1) MX10_outside 0 [.ref 1, .int x1, .int x2] [] h Q
  simp only [p_X10_outside] at hp
  refine At_iload_n (pc' := 1) iX10_outside_0 rfl rfl ?_
  refine At_if_lt (t := 27) (pc' := 4) iX10_outside_1 (by decide) rfl (fun c1 => ?_) (fun c1 => ?_)
  · have hp := hp.1 c1
    refine At_iconst (v := (-1)) (pc' := 28) iX10_outside_27 rfl (by decide) ?_
    simp only [r_X10_outside, if_pos c1] at k
    exact At_retI iX10_outside_28 rfl k
  · have hp := hp.2 c1
    refine At_iload_n (pc' := 5) iX10_outside_4 rfl rfl ?_
    refine At_aload_n (pc' := 6) iX10_outside_5 rfl rfl ?_
    refine At_getR (pc' := 9) iX10_outside_6 rfl f_10_19 (kdK eT (kd_1 hL)) (by decide) (rfH eT (rf_1_1 hL)) ?_
    refine At_getR (pc' := 12) iX10_outside_9 rfl f_10_57 (kdK eT (kd_12 hL)) (by decide) (rfH eT (rf_12_6 hL)) ?_
    refine At_getI (pc' := 15) iX10_outside_12 rfl f_10_165 (kdK eT (kd_15 hL)) (by decide) ?_
    refine At_icmp_ge (t := 27) (pc' := 18) iX10_outside_15 (by decide) rfl (fun c15 => ?_) (fun c15 => ?_)
    · have hp := hp.2 c15
      refine At_iconst (v := (-1)) (pc' := 28) iX10_outside_27 rfl (by decide) ?_
      simp only [r_X10_outside, if_neg c1, if_neg c15] at k
      exact At_retI iX10_outside_28 rfl k
    · have hp := hp.1 c15
      refine At_iload_n (pc' := 19) iX10_outside_18 rfl rfl ?_
      refine At_if_lt (t := 27) (pc' := 22) iX10_outside_19 (by decide) rfl (fun c19 => ?_) (fun c19 => ?_)
      · have hp := hp.1 c19
        refine At_iconst (v := (-1)) (pc' := 28) iX10_outside_27 rfl (by decide) ?_
        simp only [r_X10_outside, if_neg c1, if_pos c15, if_pos c19] at k
        exact At_retI iX10_outside_28 rfl k
      · have hp := hp.2 c19
        refine At_iload_n (pc' := 23) iX10_outside_22 rfl rfl ?_
        refine At_iconst (v := nI 1) (pc' := 24) iX10_outside_23 rfl (by decide) ?_
        refine At_icmp_le (t := 29) (pc' := 27) iX10_outside_24 (by decide) rfl (fun c24 => ?_) (fun c24 => ?_)
        · have hp := hp.2 c24
          refine At_aload_n (pc' := 30) iX10_outside_29 rfl rfl ?_
          refine At_getR (pc' := 33) iX10_outside_30 rfl f_10_19 (kdK eT (kd_1 hL)) (by decide) (rfH eT (rf_1_1 hL)) ?_
          refine At_iload_n (pc' := 34) iX10_outside_33 rfl rfl ?_
          refine At_iload_n (pc' := 35) iX10_outside_34 rfl rfl ?_
          refine At_virt (pc' := 38) iX10_outside_35 rfl m_10_168 rfl rfl (kdK eT (kd_12 hL)) (Nat.le_of_ble_eq_true rfl) (Nat.le_of_ble_eq_true rfl) ?_
          obtain ⟨hp1, hp⟩ := hp
          refine c_X8_rowPart (h := h) hL eT 12 x1 x2 (isX8_12 hL) hp1 (show At (d + 1) MX10_outside 38 [.ref 1, .int x1, .int x2] [.int (r_X8_rowPart 12 x1 x2 h)] h Q from ?_)
          simp only [r_X10_outside, if_neg c1, if_pos c15, if_neg c19, if_neg c24] at k
          exact At_retI iX10_outside_38 rfl k
        · have hp := hp.1 c24
          refine At_iconst (v := (-1)) (pc' := 28) iX10_outside_27 rfl (by decide) ?_
          simp only [r_X10_outside, if_neg c1, if_pos c15, if_neg c19, if_pos c24] at k
          exact At_retI iX10_outside_28 rfl k
def r_X10_over (x1 : Int32) (x2 : Int32) (h : Hp) : Int32 := if (r_X10_isSlot x1 h) = true then (if (r_X10_isSlot x2 h) = true then (if x1 = x2 then (-1) else r_X1_timesOver 15 x1 x2 h) else (-1)) else (-1)
def p_X10_over (x1 : Int32) (x2 : Int32) (h : Hp) : Prop := (((r_X10_isSlot x1 h) = true) → ((((r_X10_isSlot x2 h) = true) → (((x1 = x2) → True) ∧ (¬ (x1 = x2) → ((p_X1_timesOver 15 x1 x2 h) ∧ True)))) ∧ (¬ ((r_X10_isSlot x2 h) = true) → True))) ∧ (¬ ((r_X10_isSlot x1 h) = true) → True)
set_option maxRecDepth 20000 in
theorem c_X10_over {d : Nat} {T : HT} (hL : Lay T) {h : Hp} (eT : h.2.2 = T) (x1 : Int32) (x2 : Int32)  (hp : p_X10_over x1 x2 h) {Q : Option Value → Hp → Prop} (k : Q (some (.int (r_X10_over x1 x2 h))) h) : Call (d + 1) MX10_over [.ref 1, .int x1, .int x2] h Q := by
  show At (d + 1) MX10_over 0 [.ref 1, .int x1, .int x2] [] h Q
  simp only [p_X10_over] at hp
  refine At_aload_n (pc' := 1) iX10_over_0 rfl rfl ?_
  refine At_iload_n (pc' := 2) iX10_over_1 rfl rfl ?_
  refine At_virt (pc' := 5) iX10_over_2 rfl m_10_71 rfl rfl (kdK eT (kd_1 hL)) (Nat.le_of_ble_eq_true rfl) (Nat.le_of_ble_eq_true rfl) ?_
  refine c_X10_isSlot (h := h) hL eT x1   (show At (d + 1) MX10_over 5 [.ref 1, .int x1, .int x2] [.int (b2i (r_X10_isSlot x1 h))] h Q from ?_)
  refine At_zeq (t := 21) (pc' := 8) iX10_over_5 (by decide) rfl (fun c5 => ?_) (fun c5 => ?_)
  · have hp := hp.2 c5
    refine At_iconst (v := (-1)) (pc' := 22) iX10_over_21 rfl (by decide) ?_
    simp only [r_X10_over, if_neg c5] at k
    exact At_retI iX10_over_22 rfl k
  · have hp := hp.1 c5
    refine At_aload_n (pc' := 9) iX10_over_8 rfl rfl ?_
    refine At_iload_n (pc' := 10) iX10_over_9 rfl rfl ?_
    refine At_virt (pc' := 13) iX10_over_10 rfl m_10_71 rfl rfl (kdK eT (kd_1 hL)) (Nat.le_of_ble_eq_true rfl) (Nat.le_of_ble_eq_true rfl) ?_
    refine c_X10_isSlot (h := h) hL eT x2   (show At (d + 1) MX10_over 13 [.ref 1, .int x1, .int x2] [.int (b2i (r_X10_isSlot x2 h))] h Q from ?_)
    refine At_zeq (t := 21) (pc' := 16) iX10_over_13 (by decide) rfl (fun c13 => ?_) (fun c13 => ?_)
    · have hp := hp.2 c13
      refine At_iconst (v := (-1)) (pc' := 22) iX10_over_21 rfl (by decide) ?_
      simp only [r_X10_over, if_pos c5, if_neg c13] at k
      exact At_retI iX10_over_22 rfl k
    · have hp := hp.1 c13
      refine At_iload_n (pc' := 17) iX10_over_16 rfl rfl ?_
      refine At_iload_n (pc' := 18) iX10_over_17 rfl rfl ?_
      refine At_icmp_ne (t := 23) (pc' := 21) iX10_over_18 (by decide) rfl (fun c18 => ?_) (fun c18 => ?_)
      · have hp := hp.2 c18
        refine At_aload_n (pc' := 24) iX10_over_23 rfl rfl ?_
        refine At_getR (pc' := 27) iX10_over_24 rfl f_10_19 (kdK eT (kd_1 hL)) (by decide) (rfH eT (rf_1_1 hL)) ?_
        refine At_getR (pc' := 30) iX10_over_27 rfl f_10_57 (kdK eT (kd_12 hL)) (by decide) (rfH eT (rf_12_6 hL)) ?_
        refine At_iload_n (pc' := 31) iX10_over_30 rfl rfl ?_
        refine At_iload_n (pc' := 32) iX10_over_31 rfl rfl ?_
        refine At_virt (pc' := 35) iX10_over_32 rfl m_10_161 rfl rfl (kdK eT (kd_15 hL)) (Nat.le_of_ble_eq_true rfl) (Nat.le_of_ble_eq_true rfl) ?_
        obtain ⟨hp1, hp⟩ := hp
        refine c_X1_timesOver (h := h) hL eT 15 x1 x2 (isX1_15 hL) hp1 (show At (d + 1) MX10_over 35 [.ref 1, .int x1, .int x2] [.int (r_X1_timesOver 15 x1 x2 h)] h Q from ?_)
        simp only [r_X10_over, if_pos c5, if_pos c13, if_neg c18] at k
        exact At_retI iX10_over_35 rfl k
      · have hp := hp.1 c18
        refine At_iconst (v := (-1)) (pc' := 22) iX10_over_21 rfl (by decide) ?_
        simp only [r_X10_over, if_pos c5, if_pos c13, if_pos c18] at k
        exact At_retI iX10_over_22 rfl k
def r_X10_slip (x1 : Int32) (h : Hp) : Bool := if x1 < 0 then false else (if (nI 1000) < x1 then false else true)
def w_X10_slip (x1 : Int32) (h : Hp) : Hp := if x1 < 0 then h else (if (nI 1000) < x1 then h else (w_X2_forget (sI h 12 1 x1)))
theorem wT_X10_slip (x1 : Int32) (h : Hp) : (w_X10_slip x1 h).2.2 = h.2.2 := by
  unfold w_X10_slip
  repeat' split
  all_goals first | rfl | (simp only [sI_T, sJ_T, cpI_T, wT_X2_forget]; done)
set_option maxRecDepth 20000 in
theorem c_X10_slip {d : Nat} {T : HT} (hL : Lay T) {h : Hp} (eT : h.2.2 = T) (x1 : Int32)  {Q : Option Value → Hp → Prop} (k : Q (some (.int (b2i (r_X10_slip x1 h)))) (w_X10_slip x1 h)) : Call (d + 1) MX10_slip [.ref 1, .int x1] h Q := by
  show At (d + 1) MX10_slip 0 [.ref 1, .int x1] [] h Q
  refine At_iload_n (pc' := 1) iX10_slip_0 rfl rfl ?_
  refine At_if_lt (t := 11) (pc' := 4) iX10_slip_1 (by decide) rfl (fun c1 => ?_) (fun c1 => ?_)
  · refine At_iconst (v := nI 0) (pc' := 12) iX10_slip_11 rfl (by decide) ?_
    simp only [r_X10_slip, w_X10_slip, if_pos c1] at k
    exact At_retF iX10_slip_12 rfl k
  · refine At_iload_n (pc' := 5) iX10_slip_4 rfl rfl ?_
    refine At_sipush (v := nI 1000) (pc' := 8) iX10_slip_5 rfl (by decide) ?_
    refine At_icmp_le (t := 13) (pc' := 11) iX10_slip_8 (by decide) rfl (fun c8 => ?_) (fun c8 => ?_)
    · refine At_aload_n (pc' := 14) iX10_slip_13 rfl rfl ?_
      refine At_getR (pc' := 17) iX10_slip_14 rfl f_10_19 (kdK eT (kd_1 hL)) (by decide) (rfH eT (rf_1_1 hL)) ?_
      refine At_iload_n (pc' := 18) iX10_slip_17 rfl rfl ?_
      refine At_putI (pc' := 21) iX10_slip_18 rfl f_10_88 (kdK eT (kd_12 hL)) (Or.inl rfl) (by decide) ?_
      refine At_aload_n (pc' := 22) iX10_slip_21 rfl rfl ?_
      refine At_getR (pc' := 25) iX10_slip_22 rfl f_10_26 (kdK eT (kd_1 hL)) (by decide) (rfH eT (rf_1_2 hL)) ?_
      refine At_virt (pc' := 28) iX10_slip_25 rfl m_10_64 rfl rfl (kdK eT (kd_28 hL)) (Nat.le_of_ble_eq_true rfl) (Nat.le_of_ble_eq_true rfl) ?_
      refine c_X2_forget (h := sI h 12 1 x1) hL eT    (show At (d + 1) MX10_slip 28 [.ref 1, .int x1] [] (w_X2_forget (sI h 12 1 x1)) Q from ?_)
      refine At_iconst (v := nI 1) (pc' := 29) iX10_slip_28 rfl (by decide) ?_
      simp only [r_X10_slip, w_X10_slip, if_neg c1, if_neg c8] at k
      exact At_retT iX10_slip_29 rfl k
    · refine At_iconst (v := nI 0) (pc' := 12) iX10_slip_11 rfl (by decide) ?_
      simp only [r_X10_slip, w_X10_slip, if_neg c1, if_pos c8] at k
      exact At_retF iX10_slip_12 rfl k
def r_X10_state (x1 : Int32) (h : Hp) : Int32 := gI h 15 1
def w_X10_state (x1 : Int32) (h : Hp) : Hp := w_X2_forget (sI h 15 1 x1)
theorem wT_X10_state (x1 : Int32) (h : Hp) : (w_X10_state x1 h).2.2 = h.2.2 := by
  unfold w_X10_state
  repeat' split
  all_goals first | rfl | (simp only [sI_T, sJ_T, cpI_T, wT_X2_forget]; done)
set_option maxRecDepth 20000 in
theorem c_X10_state {d : Nat} {T : HT} (hL : Lay T) {h : Hp} (eT : h.2.2 = T) (x1 : Int32)  {Q : Option Value → Hp → Prop} (k : Q (some (.int (r_X10_state x1 h))) (w_X10_state x1 h)) : Call (d + 1) MX10_state [.ref 1, .int x1] h Q := by
  show At (d + 1) MX10_state 0 [.ref 1, .int x1, un] [] h Q
  refine At_aload_n (pc' := 1) iX10_state_0 rfl rfl ?_
  refine At_getR (pc' := 4) iX10_state_1 rfl f_10_19 (kdK eT (kd_1 hL)) (by decide) (rfH eT (rf_1_1 hL)) ?_
  refine At_getR (pc' := 7) iX10_state_4 rfl f_10_57 (kdK eT (kd_12 hL)) (by decide) (rfH eT (rf_12_6 hL)) ?_
  refine At_getI (pc' := 10) iX10_state_7 rfl f_10_60 (kdK eT (kd_15 hL)) (by decide) ?_
  refine At_istore_n (L' := [.ref 1, .int x1, .int (gI h 15 1)]) (pc' := 11) iX10_state_10 rfl (Nat.le_of_ble_eq_true rfl) rfl ?_
  refine At_aload_n (pc' := 12) iX10_state_11 rfl rfl ?_
  refine At_getR (pc' := 15) iX10_state_12 rfl f_10_19 (kdK eT (kd_1 hL)) (by decide) (rfH eT (rf_1_1 hL)) ?_
  refine At_getR (pc' := 18) iX10_state_15 rfl f_10_57 (kdK eT (kd_12 hL)) (by decide) (rfH eT (rf_12_6 hL)) ?_
  refine At_iload_n (pc' := 19) iX10_state_18 rfl rfl ?_
  refine At_putI (pc' := 22) iX10_state_19 rfl f_10_60 (kdK eT (kd_15 hL)) (Or.inl rfl) (by decide) ?_
  refine At_aload_n (pc' := 23) iX10_state_22 rfl rfl ?_
  refine At_getR (pc' := 26) iX10_state_23 rfl f_10_26 (kdK eT (kd_1 hL)) (by decide) (rfH eT (rf_1_2 hL)) ?_
  refine At_virt (pc' := 29) iX10_state_26 rfl m_10_64 rfl rfl (kdK eT (kd_28 hL)) (Nat.le_of_ble_eq_true rfl) (Nat.le_of_ble_eq_true rfl) ?_
  refine c_X2_forget (h := sI h 15 1 x1) hL eT    (show At (d + 1) MX10_state 29 [.ref 1, .int x1, .int (gI h 15 1)] [] (w_X2_forget (sI h 15 1 x1)) Q from ?_)
  refine At_iload_n (pc' := 30) iX10_state_29 rfl rfl ?_
  simp only [r_X10_state, w_X10_state] at k
  exact At_retI iX10_state_30 rfl k
def r_X10_want (x1 : Int32) (x2 : Int32) (h : Hp) : Bool := if (r_X10_isSlot x1 h) = true then (if (r_X10_isColour x2) = true then true else false) else false
def w_X10_want (x1 : Int32) (x2 : Int32) (h : Hp) : Hp := if (r_X10_isSlot x1 h) = true then (if (r_X10_isColour x2) = true then (sJ h 12 3 (r_X6_with (gJ h 12 3) x1 x2)) else h) else h
theorem wT_X10_want (x1 : Int32) (x2 : Int32) (h : Hp) : (w_X10_want x1 x2 h).2.2 = h.2.2 := by
  unfold w_X10_want
  repeat' split
  all_goals first | rfl | (simp only [sI_T, sJ_T, cpI_T, wT_dummy]; done)
set_option maxRecDepth 20000 in
theorem c_X10_want {d : Nat} {T : HT} (hL : Lay T) {h : Hp} (eT : h.2.2 = T) (x1 : Int32) (x2 : Int32)  {Q : Option Value → Hp → Prop} (k : Q (some (.int (b2i (r_X10_want x1 x2 h)))) (w_X10_want x1 x2 h)) : Call (d + 1) MX10_want [.ref 1, .int x1, .int x2] h Q := by
  show At (d + 1) MX10_want 0 [.ref 1, .int x1, .int x2] [] h Q
  refine At_aload_n (pc' := 1) iX10_want_0 rfl rfl ?_
  refine At_iload_n (pc' := 2) iX10_want_1 rfl rfl ?_
  refine At_virt (pc' := 5) iX10_want_2 rfl m_10_71 rfl rfl (kdK eT (kd_1 hL)) (Nat.le_of_ble_eq_true rfl) (Nat.le_of_ble_eq_true rfl) ?_
  refine c_X10_isSlot (h := h) hL eT x1   (show At (d + 1) MX10_want 5 [.ref 1, .int x1, .int x2] [.int (b2i (r_X10_isSlot x1 h))] h Q from ?_)
  refine At_zeq (t := 15) (pc' := 8) iX10_want_5 (by decide) rfl (fun c5 => ?_) (fun c5 => ?_)
  · refine At_iconst (v := nI 0) (pc' := 16) iX10_want_15 rfl (by decide) ?_
    simp only [r_X10_want, w_X10_want, if_neg c5] at k
    exact At_retF iX10_want_16 rfl k
  · refine At_iload_n (pc' := 9) iX10_want_8 rfl rfl ?_
    refine At_stat (pc' := 12) iX10_want_9 rfl m_10_75 rfl rfl (Nat.le_of_ble_eq_true rfl) (Nat.le_of_ble_eq_true rfl) (Nat.le_of_ble_eq_true rfl) ?_
    refine c_X10_isColour (h := h) x2   (show At (d + 1) MX10_want 12 [.ref 1, .int x1, .int x2] [.int (b2i (r_X10_isColour x2))] h Q from ?_)
    refine At_zne (t := 17) (pc' := 15) iX10_want_12 (by decide) rfl (fun c12 => ?_) (fun c12 => ?_)
    · refine At_aload_n (pc' := 18) iX10_want_17 rfl rfl ?_
      refine At_getR (pc' := 21) iX10_want_18 rfl f_10_19 (kdK eT (kd_1 hL)) (by decide) (rfH eT (rf_1_1 hL)) ?_
      refine At_aload_n (pc' := 22) iX10_want_21 rfl rfl ?_
      refine At_getR (pc' := 25) iX10_want_22 rfl f_10_19 (kdK eT (kd_1 hL)) (by decide) (rfH eT (rf_1_1 hL)) ?_
      refine At_getJ (pc' := 28) iX10_want_25 rfl f_10_189 (kdK eT (kd_12 hL)) (by decide) ?_
      refine At_iload_n (pc' := 29) iX10_want_28 rfl rfl ?_
      refine At_iload_n (pc' := 30) iX10_want_29 rfl rfl ?_
      refine At_stat (pc' := 33) iX10_want_30 rfl m_10_82 rfl rfl (Nat.le_of_ble_eq_true rfl) (Nat.le_of_ble_eq_true rfl) (Nat.le_of_ble_eq_true rfl) ?_
      refine c_X6_with (h := h) (gJ h 12 3) x1 x2   (show At (d + 1) MX10_want 33 [.ref 1, .int x1, .int x2] [.long (r_X6_with (gJ h 12 3) x1 x2), .ref 12] h Q from ?_)
      refine At_putJ (pc' := 36) iX10_want_33 rfl f_10_189 (kdK eT (kd_12 hL)) (Or.inl rfl) (by decide) ?_
      refine At_iconst (v := nI 1) (pc' := 37) iX10_want_36 rfl (by decide) ?_
      simp only [r_X10_want, w_X10_want, if_pos c5, if_pos c12] at k
      exact At_retT iX10_want_37 rfl k
    · refine At_iconst (v := nI 0) (pc' := 16) iX10_want_15 rfl (by decide) ?_
      simp only [r_X10_want, w_X10_want, if_pos c5, if_neg c12] at k
      exact At_retF iX10_want_16 rfl k
def r_X11_end (x1 : Int32) (h : Hp) : Bool := if (r_X11_isIn x1 (nI 0) (gI h 59 8)) = true then true else false
def w_X11_end (x1 : Int32) (h : Hp) : Hp := if (r_X11_isIn x1 (nI 0) (gI h 59 8)) = true then (sI h 59 8 x1) else h
theorem wT_X11_end (x1 : Int32) (h : Hp) : (w_X11_end x1 h).2.2 = h.2.2 := by
  unfold w_X11_end
  repeat' split
  all_goals first | rfl | (simp only [sI_T, sJ_T, cpI_T, wT_dummy]; done)
set_option maxRecDepth 20000 in
theorem c_X11_end {d : Nat} {T : HT} (hL : Lay T) {h : Hp} (eT : h.2.2 = T) (x1 : Int32)  {Q : Option Value → Hp → Prop} (k : Q (some (.int (b2i (r_X11_end x1 h)))) (w_X11_end x1 h)) : Call (d + 1) MX11_end [.ref 59, .int x1] h Q := by
  show At (d + 1) MX11_end 0 [.ref 59, .int x1] [] h Q
  refine At_iload_n (pc' := 1) iX11_end_0 rfl rfl ?_
  refine At_iconst (v := nI 0) (pc' := 2) iX11_end_1 rfl (by decide) ?_
  refine At_aload_n (pc' := 3) iX11_end_2 rfl rfl ?_
  refine At_getI (pc' := 6) iX11_end_3 rfl f_11_82 (kdK eT (kd_59 hL)) (by decide) ?_
  refine At_stat (pc' := 9) iX11_end_6 rfl m_11_72 rfl rfl (Nat.le_of_ble_eq_true rfl) (Nat.le_of_ble_eq_true rfl) (Nat.le_of_ble_eq_true rfl) ?_
  refine c_X11_isIn (h := h) x1 (nI 0) (gI h 59 8)   (show At (d + 1) MX11_end 9 [.ref 59, .int x1] [.int (b2i (r_X11_isIn x1 (nI 0) (gI h 59 8)))] h Q from ?_)
  refine At_zne (t := 14) (pc' := 12) iX11_end_9 (by decide) rfl (fun c9 => ?_) (fun c9 => ?_)
  · refine At_aload_n (pc' := 15) iX11_end_14 rfl rfl ?_
    refine At_iload_n (pc' := 16) iX11_end_15 rfl rfl ?_
    refine At_putI (pc' := 19) iX11_end_16 rfl f_11_82 (kdK eT (kd_59 hL)) (Or.inl rfl) (by decide) ?_
    refine At_iconst (v := nI 1) (pc' := 20) iX11_end_19 rfl (by decide) ?_
    simp only [r_X11_end, w_X11_end, if_pos c9] at k
    exact At_retT iX11_end_20 rfl k
  · refine At_iconst (v := nI 0) (pc' := 13) iX11_end_12 rfl (by decide) ?_
    simp only [r_X11_end, w_X11_end, if_neg c9] at k
    exact At_retF iX11_end_13 rfl k
def r_X11_isDigit (x0 : Int32) : Bool := r_X11_isIn x0 (nI 48) (nI 57)
set_option maxRecDepth 20000 in
theorem c_X11_isDigit {d : Nat} {h : Hp} (x0 : Int32)  {Q : Option Value → Hp → Prop} (k : Q (some (.int (b2i (r_X11_isDigit x0)))) h) : Call (d + 1) MX11_isDigit [.int x0] h Q := by
  show At (d + 1) MX11_isDigit 0 [.int x0] [] h Q
  refine At_iload_n (pc' := 1) iX11_isDigit_0 rfl rfl ?_
  refine At_bipush (v := nI 48) (pc' := 3) iX11_isDigit_1 rfl (by decide) ?_
  refine At_bipush (v := nI 57) (pc' := 5) iX11_isDigit_3 rfl (by decide) ?_
  refine At_stat (pc' := 8) iX11_isDigit_5 rfl m_11_72 rfl rfl (Nat.le_of_ble_eq_true rfl) (Nat.le_of_ble_eq_true rfl) (Nat.le_of_ble_eq_true rfl) ?_
  refine c_X11_isIn (h := h) x0 (nI 48) (nI 57)   (show At (d + 1) MX11_isDigit 8 [.int x0] [.int (b2i (r_X11_isIn x0 (nI 48) (nI 57)))] h Q from ?_)
  simp only [r_X11_isDigit] at k
  exact At_retZ iX11_isDigit_8 rfl (b2i_01 _) k
def r_X11_isLetter (x0 : Int32) : Bool := if (r_X11_isIn x0 (nI 97) (nI 122)) = true then true else (if (r_X11_isIn x0 (nI 65) (nI 90)) = true then true else false)
set_option maxRecDepth 20000 in
theorem c_X11_isLetter {d : Nat} {h : Hp} (x0 : Int32)  {Q : Option Value → Hp → Prop} (k : Q (some (.int (b2i (r_X11_isLetter x0)))) h) : Call (d + 1) MX11_isLetter [.int x0] h Q := by
  show At (d + 1) MX11_isLetter 0 [.int x0] [] h Q
  refine At_iload_n (pc' := 1) iX11_isLetter_0 rfl rfl ?_
  refine At_bipush (v := nI 97) (pc' := 3) iX11_isLetter_1 rfl (by decide) ?_
  refine At_bipush (v := nI 122) (pc' := 5) iX11_isLetter_3 rfl (by decide) ?_
  refine At_stat (pc' := 8) iX11_isLetter_5 rfl m_11_72 rfl rfl (Nat.le_of_ble_eq_true rfl) (Nat.le_of_ble_eq_true rfl) (Nat.le_of_ble_eq_true rfl) ?_
  refine c_X11_isIn (h := h) x0 (nI 97) (nI 122)   (show At (d + 1) MX11_isLetter 8 [.int x0] [.int (b2i (r_X11_isIn x0 (nI 97) (nI 122)))] h Q from ?_)
  refine At_zne (t := 22) (pc' := 11) iX11_isLetter_8 (by decide) rfl (fun c8 => ?_) (fun c8 => ?_)
  · refine At_iconst (v := nI 1) (pc' := 23) iX11_isLetter_22 rfl (by decide) ?_
    refine At_goto (t := 27) iX11_isLetter_23 (by decide) ?_
    simp only [r_X11_isLetter, if_pos c8] at k
    exact At_retT iX11_isLetter_27 rfl k
  · refine At_iload_n (pc' := 12) iX11_isLetter_11 rfl rfl ?_
    refine At_bipush (v := nI 65) (pc' := 14) iX11_isLetter_12 rfl (by decide) ?_
    refine At_bipush (v := nI 90) (pc' := 16) iX11_isLetter_14 rfl (by decide) ?_
    refine At_stat (pc' := 19) iX11_isLetter_16 rfl m_11_72 rfl rfl (Nat.le_of_ble_eq_true rfl) (Nat.le_of_ble_eq_true rfl) (Nat.le_of_ble_eq_true rfl) ?_
    refine c_X11_isIn (h := h) x0 (nI 65) (nI 90)   (show At (d + 1) MX11_isLetter 19 [.int x0] [.int (b2i (r_X11_isIn x0 (nI 65) (nI 90)))] h Q from ?_)
    refine At_zeq (t := 26) (pc' := 22) iX11_isLetter_19 (by decide) rfl (fun c19 => ?_) (fun c19 => ?_)
    · refine At_iconst (v := nI 0) (pc' := 27) iX11_isLetter_26 rfl (by decide) ?_
      simp only [r_X11_isLetter, if_neg c8, if_neg c19] at k
      exact At_retF iX11_isLetter_27 rfl k
    · refine At_iconst (v := nI 1) (pc' := 23) iX11_isLetter_22 rfl (by decide) ?_
      refine At_goto (t := 27) iX11_isLetter_23 (by decide) ?_
      simp only [r_X11_isLetter, if_neg c8, if_pos c19] at k
      exact At_retT iX11_isLetter_27 rfl k
def r_X11_isSlot (x1 : Int32) (h : Hp) : Bool := r_X11_isIn x1 (nI 0) ((gI h 60 0) - (nI 1))
set_option maxRecDepth 20000 in
theorem c_X11_isSlot {d : Nat} {T : HT} (hL : Lay T) {h : Hp} (eT : h.2.2 = T) (x1 : Int32)  {Q : Option Value → Hp → Prop} (k : Q (some (.int (b2i (r_X11_isSlot x1 h)))) h) : Call (d + 1) MX11_isSlot [.ref 59, .int x1] h Q := by
  show At (d + 1) MX11_isSlot 0 [.ref 59, .int x1] [] h Q
  refine At_iload_n (pc' := 1) iX11_isSlot_0 rfl rfl ?_
  refine At_iconst (v := nI 0) (pc' := 2) iX11_isSlot_1 rfl (by decide) ?_
  refine At_aload_n (pc' := 3) iX11_isSlot_2 rfl rfl ?_
  refine At_getR (pc' := 6) iX11_isSlot_3 rfl f_11_7 (kdK eT (kd_59 hL)) (by decide) (rfH eT (rf_59_0 hL)) ?_
  refine At_iconst (v := nI 0) (pc' := 7) iX11_isSlot_6 rfl (by decide) ?_
  refine At_iald (pc' := 8) iX11_isSlot_7 rfl (kdH eT (kd_60 hL)) (by decide) (show At (d + 1) MX11_isSlot 8 [.ref 59, .int x1] [.int (gI h 60 0), .int (nI 0), .int x1] h Q from ?_)
  refine At_iconst (v := nI 1) (pc' := 9) iX11_isSlot_8 rfl (by decide) ?_
  refine At_isub (pc' := 10) iX11_isSlot_9 rfl ?_
  refine At_stat (pc' := 13) iX11_isSlot_10 rfl m_11_72 rfl rfl (Nat.le_of_ble_eq_true rfl) (Nat.le_of_ble_eq_true rfl) (Nat.le_of_ble_eq_true rfl) ?_
  refine c_X11_isIn (h := h) x1 (nI 0) ((gI h 60 0) - (nI 1))   (show At (d + 1) MX11_isSlot 13 [.ref 59, .int x1] [.int (b2i (r_X11_isIn x1 (nI 0) ((gI h 60 0) - (nI 1))))] h Q from ?_)
  simp only [r_X11_isSlot] at k
  exact At_retZ iX11_isSlot_13 rfl (b2i_01 _) k
def r_X11_isSong (x0 : Int32) : Bool := r_X11_isIn x0 (nI 0) (nI 3)
set_option maxRecDepth 20000 in
theorem c_X11_isSong {d : Nat} {h : Hp} (x0 : Int32)  {Q : Option Value → Hp → Prop} (k : Q (some (.int (b2i (r_X11_isSong x0)))) h) : Call (d + 1) MX11_isSong [.int x0] h Q := by
  show At (d + 1) MX11_isSong 0 [.int x0] [] h Q
  refine At_iload_n (pc' := 1) iX11_isSong_0 rfl rfl ?_
  refine At_iconst (v := nI 0) (pc' := 2) iX11_isSong_1 rfl (by decide) ?_
  refine At_iconst (v := nI 3) (pc' := 3) iX11_isSong_2 rfl (by decide) ?_
  refine At_stat (pc' := 6) iX11_isSong_3 rfl m_11_72 rfl rfl (Nat.le_of_ble_eq_true rfl) (Nat.le_of_ble_eq_true rfl) (Nat.le_of_ble_eq_true rfl) ?_
  refine c_X11_isIn (h := h) x0 (nI 0) (nI 3)   (show At (d + 1) MX11_isSong 6 [.int x0] [.int (b2i (r_X11_isIn x0 (nI 0) (nI 3)))] h Q from ?_)
  simp only [r_X11_isSong] at k
  exact At_retZ iX11_isSong_6 rfl (b2i_01 _) k
def r_X11_isWithin (x0 : Int32) (x1 : Int32) (x2 : Int32) : Bool := if x1 < x2 then r_X11_isIn x0 x1 x2 else r_X11_isIn x0 x2 x1
set_option maxRecDepth 20000 in
theorem c_X11_isWithin {d : Nat} {h : Hp} (x0 : Int32) (x1 : Int32) (x2 : Int32)  {Q : Option Value → Hp → Prop} (k : Q (some (.int (b2i (r_X11_isWithin x0 x1 x2)))) h) : Call (d + 1) MX11_isWithin [.int x0, .int x1, .int x2] h Q := by
  show At (d + 1) MX11_isWithin 0 [.int x0, .int x1, .int x2] [] h Q
  refine At_iload_n (pc' := 1) iX11_isWithin_0 rfl rfl ?_
  refine At_iload_n (pc' := 2) iX11_isWithin_1 rfl rfl ?_
  refine At_icmp_ge (t := 14) (pc' := 5) iX11_isWithin_2 (by decide) rfl (fun c2 => ?_) (fun c2 => ?_)
  · refine At_iload_n (pc' := 15) iX11_isWithin_14 rfl rfl ?_
    refine At_iload_n (pc' := 16) iX11_isWithin_15 rfl rfl ?_
    refine At_iload_n (pc' := 17) iX11_isWithin_16 rfl rfl ?_
    refine At_stat (pc' := 20) iX11_isWithin_17 rfl m_11_72 rfl rfl (Nat.le_of_ble_eq_true rfl) (Nat.le_of_ble_eq_true rfl) (Nat.le_of_ble_eq_true rfl) ?_
    refine c_X11_isIn (h := h) x0 x2 x1   (show At (d + 1) MX11_isWithin 20 [.int x0, .int x1, .int x2] [.int (b2i (r_X11_isIn x0 x2 x1))] h Q from ?_)
    simp only [r_X11_isWithin, if_neg c2] at k
    exact At_retZ iX11_isWithin_20 rfl (b2i_01 _) k
  · refine At_iload_n (pc' := 6) iX11_isWithin_5 rfl rfl ?_
    refine At_iload_n (pc' := 7) iX11_isWithin_6 rfl rfl ?_
    refine At_iload_n (pc' := 8) iX11_isWithin_7 rfl rfl ?_
    refine At_stat (pc' := 11) iX11_isWithin_8 rfl m_11_72 rfl rfl (Nat.le_of_ble_eq_true rfl) (Nat.le_of_ble_eq_true rfl) (Nat.le_of_ble_eq_true rfl) ?_
    refine c_X11_isIn (h := h) x0 x1 x2   (show At (d + 1) MX11_isWithin 11 [.int x0, .int x1, .int x2] [.int (b2i (r_X11_isIn x0 x1 x2))] h Q from ?_)
    refine At_goto (t := 20) iX11_isWithin_11 (by decide) ?_
    simp only [r_X11_isWithin, if_pos c2] at k
    exact At_retZ iX11_isWithin_20 rfl (b2i_01 _) k
def r_X11_name (x1 : Int32) (x2 : Int32) (h : Hp) : Bool := if (r_X11_isIn x1 (nI 0) (nI 29)) = true then (if (r_X11_isIn x2 (-1) (nI 9)) = true then true else false) else false
def w_X11_name (x1 : Int32) (x2 : Int32) (h : Hp) : Hp := if (r_X11_isIn x1 (nI 0) (nI 29)) = true then (if (r_X11_isIn x2 (-1) (nI 9)) = true then (sI h 60 (((nI 940) + x1).toNatClampNeg) x2) else h) else h
def p_X11_name (x1 : Int32) (x2 : Int32) (h : Hp) : Prop := (((r_X11_isIn x1 (nI 0) (nI 29)) = true) → ((((r_X11_isIn x2 (-1) (nI 9)) = true) → ((inB ((nI 940) + x1) 4180 = true) ∧ True)) ∧ (¬ ((r_X11_isIn x2 (-1) (nI 9)) = true) → True))) ∧ (¬ ((r_X11_isIn x1 (nI 0) (nI 29)) = true) → True)
theorem wT_X11_name (x1 : Int32) (x2 : Int32) (h : Hp) : (w_X11_name x1 x2 h).2.2 = h.2.2 := by
  unfold w_X11_name
  repeat' split
  all_goals first | rfl | (simp only [sI_T, sJ_T, cpI_T, wT_dummy]; done)
set_option maxRecDepth 20000 in
theorem c_X11_name {d : Nat} {T : HT} (hL : Lay T) {h : Hp} (eT : h.2.2 = T) (x1 : Int32) (x2 : Int32)  (hp : p_X11_name x1 x2 h) {Q : Option Value → Hp → Prop} (k : Q (some (.int (b2i (r_X11_name x1 x2 h)))) (w_X11_name x1 x2 h)) : Call (d + 1) MX11_name [.ref 59, .int x1, .int x2] h Q := by
  show At (d + 1) MX11_name 0 [.ref 59, .int x1, .int x2] [] h Q
  simp only [p_X11_name] at hp
  refine At_iload_n (pc' := 1) iX11_name_0 rfl rfl ?_
  refine At_iconst (v := nI 0) (pc' := 2) iX11_name_1 rfl (by decide) ?_
  refine At_bipush (v := nI 29) (pc' := 4) iX11_name_2 rfl (by decide) ?_
  refine At_stat (pc' := 7) iX11_name_4 rfl m_11_72 rfl rfl (Nat.le_of_ble_eq_true rfl) (Nat.le_of_ble_eq_true rfl) (Nat.le_of_ble_eq_true rfl) ?_
  refine c_X11_isIn (h := h) x1 (nI 0) (nI 29)   (show At (d + 1) MX11_name 7 [.ref 59, .int x1, .int x2] [.int (b2i (r_X11_isIn x1 (nI 0) (nI 29)))] h Q from ?_)
  refine At_zeq (t := 20) (pc' := 10) iX11_name_7 (by decide) rfl (fun c7 => ?_) (fun c7 => ?_)
  · have hp := hp.2 c7
    refine At_iconst (v := nI 0) (pc' := 21) iX11_name_20 rfl (by decide) ?_
    simp only [r_X11_name, w_X11_name, if_neg c7] at k
    exact At_retF iX11_name_21 rfl k
  · have hp := hp.1 c7
    refine At_iload_n (pc' := 11) iX11_name_10 rfl rfl ?_
    refine At_iconst (v := (-1)) (pc' := 12) iX11_name_11 rfl (by decide) ?_
    refine At_bipush (v := nI 9) (pc' := 14) iX11_name_12 rfl (by decide) ?_
    refine At_stat (pc' := 17) iX11_name_14 rfl m_11_72 rfl rfl (Nat.le_of_ble_eq_true rfl) (Nat.le_of_ble_eq_true rfl) (Nat.le_of_ble_eq_true rfl) ?_
    refine c_X11_isIn (h := h) x2 (-1) (nI 9)   (show At (d + 1) MX11_name 17 [.ref 59, .int x1, .int x2] [.int (b2i (r_X11_isIn x2 (-1) (nI 9)))] h Q from ?_)
    refine At_zne (t := 22) (pc' := 20) iX11_name_17 (by decide) rfl (fun c17 => ?_) (fun c17 => ?_)
    · have hp := hp.1 c17
      refine At_aload_n (pc' := 23) iX11_name_22 rfl rfl ?_
      refine At_getR (pc' := 26) iX11_name_23 rfl f_11_7 (kdK eT (kd_59 hL)) (by decide) (rfH eT (rf_59_0 hL)) ?_
      refine At_sipush (v := nI 940) (pc' := 29) iX11_name_26 rfl (by decide) ?_
      refine At_iload_n (pc' := 30) iX11_name_29 rfl rfl ?_
      refine At_iadd (pc' := 31) iX11_name_30 rfl ?_
      refine At_iload_n (pc' := 32) iX11_name_31 rfl rfl ?_
      obtain ⟨hp1, hp⟩ := hp
      refine At_iast (pc' := 33) iX11_name_32 rfl (kdH eT (kd_60 hL)) hp1 (show At (d + 1) MX11_name 33 [.ref 59, .int x1, .int x2] [] (sI h 60 (((nI 940) + x1).toNatClampNeg) x2) Q from ?_)
      refine At_iconst (v := nI 1) (pc' := 34) iX11_name_33 rfl (by decide) ?_
      simp only [r_X11_name, w_X11_name, if_pos c7, if_pos c17] at k
      exact At_retT iX11_name_34 rfl k
    · have hp := hp.2 c17
      refine At_iconst (v := nI 0) (pc' := 21) iX11_name_20 rfl (by decide) ?_
      simp only [r_X11_name, w_X11_name, if_pos c7, if_neg c17] at k
      exact At_retF iX11_name_21 rfl k
def r_X11_outside (x1 : Int32) (x2 : Int32) (h : Hp) : Int32 := if (r_X11_isIn x1 (nI 0) ((gI h 60 3) - (nI 1))) = true then (if (r_X11_isIn x2 (nI 0) (nI 1)) = true then gI h 60 ((((nI 320) + ((nI 2) * x1)) + x2).toNatClampNeg) else (-1)) else (-1)
def p_X11_outside (x1 : Int32) (x2 : Int32) (h : Hp) : Prop := (((r_X11_isIn x1 (nI 0) ((gI h 60 3) - (nI 1))) = true) → ((((r_X11_isIn x2 (nI 0) (nI 1)) = true) → ((inB (((nI 320) + ((nI 2) * x1)) + x2) 4180 = true) ∧ True)) ∧ (¬ ((r_X11_isIn x2 (nI 0) (nI 1)) = true) → True))) ∧ (¬ ((r_X11_isIn x1 (nI 0) ((gI h 60 3) - (nI 1))) = true) → True)
set_option maxRecDepth 20000 in
theorem c_X11_outside {d : Nat} {T : HT} (hL : Lay T) {h : Hp} (eT : h.2.2 = T) (x1 : Int32) (x2 : Int32)  (hp : p_X11_outside x1 x2 h) {Q : Option Value → Hp → Prop} (k : Q (some (.int (r_X11_outside x1 x2 h))) h) : Call (d + 1) MX11_outside [.ref 59, .int x1, .int x2] h Q := by
  show At (d + 1) MX11_outside 0 [.ref 59, .int x1, .int x2] [] h Q
  simp only [p_X11_outside] at hp
  refine At_iload_n (pc' := 1) iX11_outside_0 rfl rfl ?_
  refine At_iconst (v := nI 0) (pc' := 2) iX11_outside_1 rfl (by decide) ?_
  refine At_aload_n (pc' := 3) iX11_outside_2 rfl rfl ?_
  refine At_getR (pc' := 6) iX11_outside_3 rfl f_11_7 (kdK eT (kd_59 hL)) (by decide) (rfH eT (rf_59_0 hL)) ?_
  refine At_iconst (v := nI 3) (pc' := 7) iX11_outside_6 rfl (by decide) ?_
  refine At_iald (pc' := 8) iX11_outside_7 rfl (kdH eT (kd_60 hL)) (by decide) (show At (d + 1) MX11_outside 8 [.ref 59, .int x1, .int x2] [.int (gI h 60 3), .int (nI 0), .int x1] h Q from ?_)
  refine At_iconst (v := nI 1) (pc' := 9) iX11_outside_8 rfl (by decide) ?_
  refine At_isub (pc' := 10) iX11_outside_9 rfl ?_
  refine At_stat (pc' := 13) iX11_outside_10 rfl m_11_72 rfl rfl (Nat.le_of_ble_eq_true rfl) (Nat.le_of_ble_eq_true rfl) (Nat.le_of_ble_eq_true rfl) ?_
  refine c_X11_isIn (h := h) x1 (nI 0) ((gI h 60 3) - (nI 1))   (show At (d + 1) MX11_outside 13 [.ref 59, .int x1, .int x2] [.int (b2i (r_X11_isIn x1 (nI 0) ((gI h 60 3) - (nI 1))))] h Q from ?_)
  refine At_zeq (t := 42) (pc' := 16) iX11_outside_13 (by decide) rfl (fun c13 => ?_) (fun c13 => ?_)
  · have hp := hp.2 c13
    refine At_iconst (v := (-1)) (pc' := 43) iX11_outside_42 rfl (by decide) ?_
    simp only [r_X11_outside, if_neg c13] at k
    exact At_retI iX11_outside_43 rfl k
  · have hp := hp.1 c13
    refine At_iload_n (pc' := 17) iX11_outside_16 rfl rfl ?_
    refine At_iconst (v := nI 0) (pc' := 18) iX11_outside_17 rfl (by decide) ?_
    refine At_iconst (v := nI 1) (pc' := 19) iX11_outside_18 rfl (by decide) ?_
    refine At_stat (pc' := 22) iX11_outside_19 rfl m_11_72 rfl rfl (Nat.le_of_ble_eq_true rfl) (Nat.le_of_ble_eq_true rfl) (Nat.le_of_ble_eq_true rfl) ?_
    refine c_X11_isIn (h := h) x2 (nI 0) (nI 1)   (show At (d + 1) MX11_outside 22 [.ref 59, .int x1, .int x2] [.int (b2i (r_X11_isIn x2 (nI 0) (nI 1)))] h Q from ?_)
    refine At_zeq (t := 42) (pc' := 25) iX11_outside_22 (by decide) rfl (fun c22 => ?_) (fun c22 => ?_)
    · have hp := hp.2 c22
      refine At_iconst (v := (-1)) (pc' := 43) iX11_outside_42 rfl (by decide) ?_
      simp only [r_X11_outside, if_pos c13, if_neg c22] at k
      exact At_retI iX11_outside_43 rfl k
    · have hp := hp.1 c22
      refine At_aload_n (pc' := 26) iX11_outside_25 rfl rfl ?_
      refine At_getR (pc' := 29) iX11_outside_26 rfl f_11_7 (kdK eT (kd_59 hL)) (by decide) (rfH eT (rf_59_0 hL)) ?_
      refine At_sipush (v := nI 320) (pc' := 32) iX11_outside_29 rfl (by decide) ?_
      refine At_iconst (v := nI 2) (pc' := 33) iX11_outside_32 rfl (by decide) ?_
      refine At_iload_n (pc' := 34) iX11_outside_33 rfl rfl ?_
      refine At_imul (pc' := 35) iX11_outside_34 rfl ?_
      refine At_iadd (pc' := 36) iX11_outside_35 rfl ?_
      refine At_iload_n (pc' := 37) iX11_outside_36 rfl rfl ?_
      refine At_iadd (pc' := 38) iX11_outside_37 rfl ?_
      obtain ⟨hp1, hp⟩ := hp
      refine At_iald (pc' := 39) iX11_outside_38 rfl (kdH eT (kd_60 hL)) hp1 (show At (d + 1) MX11_outside 39 [.ref 59, .int x1, .int x2] [.int (gI h 60 ((((nI 320) + ((nI 2) * x1)) + x2).toNatClampNeg))] h Q from ?_)
      refine At_goto (t := 43) iX11_outside_39 (by decide) ?_
      simp only [r_X11_outside, if_pos c13, if_pos c22] at k
      exact At_retI iX11_outside_43 rfl k
