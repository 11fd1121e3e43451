-- methods that are functions; written out by gen20.py
def r_X11_slip (x1 : Int32) (h : Hp) : Bool := if (r_X11_isIn x1 (nI 0) (nI 1000)) = true then true else false
def w_X11_slip (x1 : Int32) (h : Hp) : Hp := if (r_X11_isIn x1 (nI 0) (nI 1000)) = true then (sI (sI h 60 1 x1) 59 3 (nI 0)) else h
theorem wT_X11_slip (x1 : Int32) (h : Hp) : (w_X11_slip x1 h).2.2 = h.2.2 := by
  unfold w_X11_slip
  repeat' split
  all_goals first | rfl | (simp only [sI_T, sJ_T, cpI_T, wT_dummy]; done)
set_option maxRecDepth 20000 in
theorem c_X11_slip {d : Nat} {T : HT} (hL : Lay T) {h : Hp} (eT : h.2.2 = T) (x1 : Int32)  {Q : Option Value → Hp → Prop} (k : Q (some (.int (b2i (r_X11_slip x1 h)))) (w_X11_slip x1 h)) : Call (d + 1) MX11_slip [.ref 59, .int x1] h Q := by
  show At (d + 1) MX11_slip 0 [.ref 59, .int x1] [] h Q
  refine At_iload_n (pc' := 1) iX11_slip_0 rfl rfl ?_
  refine At_iconst (v := nI 0) (pc' := 2) iX11_slip_1 rfl (by decide) ?_
  refine At_sipush (v := nI 1000) (pc' := 5) iX11_slip_2 rfl (by decide) ?_
  refine At_stat (pc' := 8) iX11_slip_5 rfl m_11_72 rfl rfl (Nat.le_of_ble_eq_true rfl) (Nat.le_of_ble_eq_true rfl) (Nat.le_of_ble_eq_true rfl) ?_
  refine c_X11_isIn (h := h) x1 (nI 0) (nI 1000)   (show At (d + 1) MX11_slip 8 [.ref 59, .int x1] [.int (b2i (r_X11_isIn x1 (nI 0) (nI 1000)))] h Q from ?_)
  refine At_zne (t := 13) (pc' := 11) iX11_slip_8 (by decide) rfl (fun c8 => ?_) (fun c8 => ?_)
  · refine At_aload_n (pc' := 14) iX11_slip_13 rfl rfl ?_
    refine At_getR (pc' := 17) iX11_slip_14 rfl f_11_7 (kdK eT (kd_59 hL)) (by decide) (rfH eT (rf_59_0 hL)) ?_
    refine At_iconst (v := nI 1) (pc' := 18) iX11_slip_17 rfl (by decide) ?_
    refine At_iload_n (pc' := 19) iX11_slip_18 rfl rfl ?_
    refine At_iast (pc' := 20) iX11_slip_19 rfl (kdH eT (kd_60 hL)) (by decide) (show At (d + 1) MX11_slip 20 [.ref 59, .int x1] [] (sI h 60 1 x1) Q from ?_)
    refine At_aload_n (pc' := 21) iX11_slip_20 rfl rfl ?_
    refine At_iconst (v := nI 0) (pc' := 22) iX11_slip_21 rfl (by decide) ?_
    refine At_putI (pc' := 25) iX11_slip_22 rfl f_11_69 (kdK eT (kd_59 hL)) (Or.inl rfl) (by decide) ?_
    refine At_iconst (v := nI 1) (pc' := 26) iX11_slip_25 rfl (by decide) ?_
    simp only [r_X11_slip, w_X11_slip, if_pos c8] at k
    exact At_retT iX11_slip_26 rfl k
  · refine At_iconst (v := nI 0) (pc' := 12) iX11_slip_11 rfl (by decide) ?_
    simp only [r_X11_slip, w_X11_slip, if_neg c8] at k
    exact At_retF iX11_slip_12 rfl k
def w_X11_swaps (x1 : Int32) (x2 : Int32) (x3 : Int32) (h : Hp) : Hp := if x1 = x2 then (sI (sI h 65 x1.toNatClampNeg (gI h 65 x2.toNatClampNeg)) 65 x2.toNatClampNeg (gI h 65 x1.toNatClampNeg)) else (sI (sI (w_X11_goesOver (gI h 65 x1.toNatClampNeg) (gI h 65 x2.toNatClampNeg) x3 h) 65 x1.toNatClampNeg (gI (w_X11_goesOver (gI h 65 x1.toNatClampNeg) (gI h 65 x2.toNatClampNeg) x3 h) 65 x2.toNatClampNeg)) 65 x2.toNatClampNeg (gI h 65 x1.toNatClampNeg))
def p_X11_swaps (x1 : Int32) (x2 : Int32) (x3 : Int32) (h : Hp) : Prop := (inB x1 16 = true) ∧ (((x1 = x2) → ((inB x2 16 = true) ∧ ((inB x1 16 = true) ∧ ((inB x2 16 = true) ∧ True)))) ∧ (¬ (x1 = x2) → ((inB x2 16 = true) ∧ ((p_X11_goesOver (gI h 65 x1.toNatClampNeg) (gI h 65 x2.toNatClampNeg) x3 h) ∧ ((inB x2 16 = true) ∧ ((inB x1 16 = true) ∧ ((inB x2 16 = true) ∧ True)))))))
theorem wT_X11_swaps (x1 : Int32) (x2 : Int32) (x3 : Int32) (h : Hp) : (w_X11_swaps x1 x2 x3 h).2.2 = h.2.2 := by
  unfold w_X11_swaps
  repeat' split
  all_goals first | rfl | (simp only [sI_T, sJ_T, cpI_T, wT_X11_goesOver]; done)
set_option maxRecDepth 20000 in
theorem c_X11_swaps {d : Nat} {T : HT} (hL : Lay T) {h : Hp} (eT : h.2.2 = T) (x1 : Int32) (x2 : Int32) (x3 : Int32)  (hp : p_X11_swaps x1 x2 x3 h) {Q : Option Value → Hp → Prop} (k : Q none (w_X11_swaps x1 x2 x3 h)) : Call (d + 1) MX11_swaps [.ref 59, .int x1, .int x2, .int x3] h Q := by
  show At (d + 1) MX11_swaps 0 [.ref 59, .int x1, .int x2, .int x3, un] [] h Q
  simp only [p_X11_swaps] at hp
  refine At_aload_n (pc' := 1) iX11_swaps_0 rfl rfl ?_
  refine At_getR (pc' := 4) iX11_swaps_1 rfl f_11_29 (kdK eT (kd_59 hL)) (by decide) (rfH eT (rf_59_17 hL)) ?_
  refine At_iload_n (pc' := 5) iX11_swaps_4 rfl rfl ?_
  obtain ⟨hp1, hp⟩ := hp
  refine At_iald (pc' := 6) iX11_swaps_5 rfl (kdH eT (kd_65 hL)) hp1 (show At (d + 1) MX11_swaps 6 [.ref 59, .int x1, .int x2, .int x3, un] [.int (gI h 65 x1.toNatClampNeg)] h Q from ?_)
  refine At_istore (L' := [.ref 59, .int x1, .int x2, .int x3, .int (gI h 65 x1.toNatClampNeg)]) (pc' := 8) iX11_swaps_6 rfl (Nat.le_of_ble_eq_true rfl) rfl ?_
  refine At_iload_n (pc' := 9) iX11_swaps_8 rfl rfl ?_
  refine At_iload_n (pc' := 10) iX11_swaps_9 rfl rfl ?_
  refine At_icmp_eq (t := 26) (pc' := 13) iX11_swaps_10 (by decide) rfl (fun c10 => ?_) (fun c10 => ?_)
  · have hp := hp.1 c10
    refine At_aload_n (pc' := 27) iX11_swaps_26 rfl rfl ?_
    refine At_getR (pc' := 30) iX11_swaps_27 rfl f_11_29 (kdK eT (kd_59 hL)) (by decide) (rfH eT (rf_59_17 hL)) ?_
    refine At_iload_n (pc' := 31) iX11_swaps_30 rfl rfl ?_
    refine At_aload_n (pc' := 32) iX11_swaps_31 rfl rfl ?_
    refine At_getR (pc' := 35) iX11_swaps_32 rfl f_11_29 (kdK eT (kd_59 hL)) (by decide) (rfH eT (rf_59_17 hL)) ?_
    refine At_iload_n (pc' := 36) iX11_swaps_35 rfl rfl ?_
    obtain ⟨hp2, hp⟩ := hp
    refine At_iald (pc' := 37) iX11_swaps_36 rfl (kdH eT (kd_65 hL)) hp2 (show At (d + 1) MX11_swaps 37 [.ref 59, .int x1, .int x2, .int x3, .int (gI h 65 x1.toNatClampNeg)] [.int (gI h 65 x2.toNatClampNeg), .int x1, .ref 65] h Q from ?_)
    obtain ⟨hp3, hp⟩ := hp
    refine At_iast (pc' := 38) iX11_swaps_37 rfl (kdH eT (kd_65 hL)) hp3 (show At (d + 1) MX11_swaps 38 [.ref 59, .int x1, .int x2, .int x3, .int (gI h 65 x1.toNatClampNeg)] [] (sI h 65 x1.toNatClampNeg (gI h 65 x2.toNatClampNeg)) Q from ?_)
    refine At_aload_n (pc' := 39) iX11_swaps_38 rfl rfl ?_
    refine At_getR (pc' := 42) iX11_swaps_39 rfl f_11_29 (kdK eT (kd_59 hL)) (by decide) (rfH eT (rf_59_17 hL)) ?_
    refine At_iload_n (pc' := 43) iX11_swaps_42 rfl rfl ?_
    refine At_iload (pc' := 45) iX11_swaps_43 rfl rfl ?_
    obtain ⟨hp4, hp⟩ := hp
    refine At_iast (pc' := 46) iX11_swaps_45 rfl (kdH eT (kd_65 hL)) hp4 (show At (d + 1) MX11_swaps 46 [.ref 59, .int x1, .int x2, .int x3, .int (gI h 65 x1.toNatClampNeg)] [] (sI (sI h 65 x1.toNatClampNeg (gI h 65 x2.toNatClampNeg)) 65 x2.toNatClampNeg (gI h 65 x1.toNatClampNeg)) Q from ?_)
    simp only [w_X11_swaps, if_pos c10] at k
    exact At_retV iX11_swaps_46 rfl k
  · have hp := hp.2 c10
    refine At_aload_n (pc' := 14) iX11_swaps_13 rfl rfl ?_
    refine At_iload (pc' := 16) iX11_swaps_14 rfl rfl ?_
    refine At_aload_n (pc' := 17) iX11_swaps_16 rfl rfl ?_
    refine At_getR (pc' := 20) iX11_swaps_17 rfl f_11_29 (kdK eT (kd_59 hL)) (by decide) (rfH eT (rf_59_17 hL)) ?_
    refine At_iload_n (pc' := 21) iX11_swaps_20 rfl rfl ?_
    obtain ⟨hp5, hp⟩ := hp
    refine At_iald (pc' := 22) iX11_swaps_21 rfl (kdH eT (kd_65 hL)) hp5 (show At (d + 1) MX11_swaps 22 [.ref 59, .int x1, .int x2, .int x3, .int (gI h 65 x1.toNatClampNeg)] [.int (gI h 65 x2.toNatClampNeg), .int (gI h 65 x1.toNatClampNeg), .ref 59] h Q from ?_)
    refine At_iload_n (pc' := 23) iX11_swaps_22 rfl rfl ?_
    refine At_virt (pc' := 26) iX11_swaps_23 rfl m_11_181 rfl rfl (kdK eT (kd_59 hL)) (Nat.le_of_ble_eq_true rfl) (Nat.le_of_ble_eq_true rfl) ?_
    obtain ⟨hp6, hp⟩ := hp
    refine c_X11_goesOver (h := h) hL eT (gI h 65 x1.toNatClampNeg) (gI h 65 x2.toNatClampNeg) x3  hp6 (show At (d + 1) MX11_swaps 26 [.ref 59, .int x1, .int x2, .int x3, .int (gI h 65 x1.toNatClampNeg)] [] (w_X11_goesOver (gI h 65 x1.toNatClampNeg) (gI h 65 x2.toNatClampNeg) x3 h) Q from ?_)
    refine At_aload_n (pc' := 27) iX11_swaps_26 rfl rfl ?_
    refine At_getR (pc' := 30) iX11_swaps_27 rfl f_11_29 (kdK ((wT_X11_goesOver (gI h 65 x1.toNatClampNeg) (gI h 65 x2.toNatClampNeg) x3 h).trans eT) (kd_59 hL)) (by decide) (rfH ((wT_X11_goesOver (gI h 65 x1.toNatClampNeg) (gI h 65 x2.toNatClampNeg) x3 h).trans eT) (rf_59_17 hL)) ?_
    refine At_iload_n (pc' := 31) iX11_swaps_30 rfl rfl ?_
    refine At_aload_n (pc' := 32) iX11_swaps_31 rfl rfl ?_
    refine At_getR (pc' := 35) iX11_swaps_32 rfl f_11_29 (kdK ((wT_X11_goesOver (gI h 65 x1.toNatClampNeg) (gI h 65 x2.toNatClampNeg) x3 h).trans eT) (kd_59 hL)) (by decide) (rfH ((wT_X11_goesOver (gI h 65 x1.toNatClampNeg) (gI h 65 x2.toNatClampNeg) x3 h).trans eT) (rf_59_17 hL)) ?_
    refine At_iload_n (pc' := 36) iX11_swaps_35 rfl rfl ?_
    obtain ⟨hp7, hp⟩ := hp
    refine At_iald (pc' := 37) iX11_swaps_36 rfl (kdH ((wT_X11_goesOver (gI h 65 x1.toNatClampNeg) (gI h 65 x2.toNatClampNeg) x3 h).trans eT) (kd_65 hL)) hp7 (show At (d + 1) MX11_swaps 37 [.ref 59, .int x1, .int x2, .int x3, .int (gI h 65 x1.toNatClampNeg)] [.int (gI (w_X11_goesOver (gI h 65 x1.toNatClampNeg) (gI h 65 x2.toNatClampNeg) x3 h) 65 x2.toNatClampNeg), .int x1, .ref 65] (w_X11_goesOver (gI h 65 x1.toNatClampNeg) (gI h 65 x2.toNatClampNeg) x3 h) Q from ?_)
    obtain ⟨hp8, hp⟩ := hp
    refine At_iast (pc' := 38) iX11_swaps_37 rfl (kdH ((wT_X11_goesOver (gI h 65 x1.toNatClampNeg) (gI h 65 x2.toNatClampNeg) x3 h).trans eT) (kd_65 hL)) hp8 (show At (d + 1) MX11_swaps 38 [.ref 59, .int x1, .int x2, .int x3, .int (gI h 65 x1.toNatClampNeg)] [] (sI (w_X11_goesOver (gI h 65 x1.toNatClampNeg) (gI h 65 x2.toNatClampNeg) x3 h) 65 x1.toNatClampNeg (gI (w_X11_goesOver (gI h 65 x1.toNatClampNeg) (gI h 65 x2.toNatClampNeg) x3 h) 65 x2.toNatClampNeg)) Q from ?_)
    refine At_aload_n (pc' := 39) iX11_swaps_38 rfl rfl ?_
    refine At_getR (pc' := 42) iX11_swaps_39 rfl f_11_29 (kdK ((wT_X11_goesOver (gI h 65 x1.toNatClampNeg) (gI h 65 x2.toNatClampNeg) x3 h).trans eT) (kd_59 hL)) (by decide) (rfH ((wT_X11_goesOver (gI h 65 x1.toNatClampNeg) (gI h 65 x2.toNatClampNeg) x3 h).trans eT) (rf_59_17 hL)) ?_
    refine At_iload_n (pc' := 43) iX11_swaps_42 rfl rfl ?_
    refine At_iload (pc' := 45) iX11_swaps_43 rfl rfl ?_
    obtain ⟨hp9, hp⟩ := hp
    refine At_iast (pc' := 46) iX11_swaps_45 rfl (kdH ((wT_X11_goesOver (gI h 65 x1.toNatClampNeg) (gI h 65 x2.toNatClampNeg) x3 h).trans eT) (kd_65 hL)) hp9 (show At (d + 1) MX11_swaps 46 [.ref 59, .int x1, .int x2, .int x3, .int (gI h 65 x1.toNatClampNeg)] [] (sI (sI (w_X11_goesOver (gI h 65 x1.toNatClampNeg) (gI h 65 x2.toNatClampNeg) x3 h) 65 x1.toNatClampNeg (gI (w_X11_goesOver (gI h 65 x1.toNatClampNeg) (gI h 65 x2.toNatClampNeg) x3 h) 65 x2.toNatClampNeg)) 65 x2.toNatClampNeg (gI h 65 x1.toNatClampNeg)) Q from ?_)
    simp only [w_X11_swaps, if_neg c10] at k
    exact At_retV iX11_swaps_46 rfl k
def r_X4_madeOn (x0 : Int64) (x2 : Int32) (x3 : Int64) (x5 : Int32) : Int64 := if (r_X4_isTurn x2) = true then r_X6_turned x0 (r_X4_from x2) x5 else (if (r_X4_findsColour x2 x0 x3) = true then (if (r_X4_kind x2) = 0 then r_X6_lifted x0 (r_X4_from x2) (r_X4_to x2) else r_X6_swapped x0 (r_X4_from x2) (r_X4_to x2)) else x0)
def p_X4_madeOn (x0 : Int64) (x2 : Int32) (x3 : Int64) (x5 : Int32) : Prop := (((r_X4_isTurn x2) = true) → ((p_X6_turned x0 (r_X4_from x2) x5) ∧ True)) ∧ (¬ ((r_X4_isTurn x2) = true) → ((((r_X4_findsColour x2 x0 x3) = true) → ((((r_X4_kind x2) = 0) → True) ∧ (¬ ((r_X4_kind x2) = 0) → True))) ∧ (¬ ((r_X4_findsColour x2 x0 x3) = true) → True)))
set_option maxRecDepth 20000 in
theorem c_X4_madeOn {d : Nat} {h : Hp} (x0 : Int64) (x2 : Int32) (x3 : Int64) (x5 : Int32)  (hp : p_X4_madeOn x0 x2 x3 x5) {Q : Option Value → Hp → Prop} (k : Q (some (.long (r_X4_madeOn x0 x2 x3 x5))) h) : Call (d + 2) MX4_madeOn [.long x0, .int x2, .long x3, .int x5] h Q := by
  show At (d + 2) MX4_madeOn 0 [.long x0, un, .int x2, .long x3, un, .int x5, un, un] [] h Q
  simp only [p_X4_madeOn] at hp
  refine At_iload_n (pc' := 1) iX4_madeOn_0 rfl rfl ?_
  refine At_stat (pc' := 4) iX4_madeOn_1 rfl m_4_11 rfl rfl (Nat.le_of_ble_eq_true rfl) (Nat.le_of_ble_eq_true rfl) (Nat.le_of_ble_eq_true rfl) ?_
  refine c_X4_from (h := h) x2   (show At (d + 2) MX4_madeOn 4 [.long x0, un, .int x2, .long x3, un, .int x5, un, un] [.int (r_X4_from x2)] h Q from ?_)
  refine At_istore (L' := [.long x0, un, .int x2, .long x3, un, .int x5, .int (r_X4_from x2), un]) (pc' := 6) iX4_madeOn_4 rfl (Nat.le_of_ble_eq_true rfl) rfl ?_
  refine At_iload_n (pc' := 7) iX4_madeOn_6 rfl rfl ?_
  refine At_stat (pc' := 10) iX4_madeOn_7 rfl m_4_34 rfl rfl (Nat.le_of_ble_eq_true rfl) (Nat.le_of_ble_eq_true rfl) (Nat.le_of_ble_eq_true rfl) ?_
  refine c_X4_isTurn (h := h) x2   (show At (d + 2) MX4_madeOn 10 [.long x0, un, .int x2, .long x3, un, .int x5, .int (r_X4_from x2), un] [.int (b2i (r_X4_isTurn x2))] h Q from ?_)
  refine At_zeq (t := 22) (pc' := 13) iX4_madeOn_10 (by decide) rfl (fun c10 => ?_) (fun c10 => ?_)
  · have hp := hp.2 c10
    refine At_iload_n (pc' := 23) iX4_madeOn_22 rfl rfl ?_
    refine At_lload_n (pc' := 24) iX4_madeOn_23 rfl rfl ?_
    refine At_lload_n (pc' := 25) iX4_madeOn_24 rfl rfl ?_
    refine At_stat (pc' := 28) iX4_madeOn_25 rfl m_4_42 rfl rfl (Nat.le_of_ble_eq_true rfl) (Nat.le_of_ble_eq_true rfl) (Nat.le_of_ble_eq_true rfl) ?_
    refine c_X4_findsColour (h := h) x2 x0 x3   (show At (d + 2) MX4_madeOn 28 [.long x0, un, .int x2, .long x3, un, .int x5, .int (r_X4_from x2), un] [.int (b2i (r_X4_findsColour x2 x0 x3))] h Q from ?_)
    refine At_zne (t := 33) (pc' := 31) iX4_madeOn_28 (by decide) rfl (fun c28 => ?_) (fun c28 => ?_)
    · have hp := hp.1 c28
      refine At_iload_n (pc' := 34) iX4_madeOn_33 rfl rfl ?_
      refine At_stat (pc' := 37) iX4_madeOn_34 rfl m_4_22 rfl rfl (Nat.le_of_ble_eq_true rfl) (Nat.le_of_ble_eq_true rfl) (Nat.le_of_ble_eq_true rfl) ?_
      refine c_X4_to (h := h) x2   (show At (d + 2) MX4_madeOn 37 [.long x0, un, .int x2, .long x3, un, .int x5, .int (r_X4_from x2), un] [.int (r_X4_to x2)] h Q from ?_)
      refine At_istore (L' := [.long x0, un, .int x2, .long x3, un, .int x5, .int (r_X4_from x2), .int (r_X4_to x2)]) (pc' := 39) iX4_madeOn_37 rfl (Nat.le_of_ble_eq_true rfl) rfl ?_
      refine At_iload_n (pc' := 40) iX4_madeOn_39 rfl rfl ?_
      refine At_stat (pc' := 43) iX4_madeOn_40 rfl m_4_15 rfl rfl (Nat.le_of_ble_eq_true rfl) (Nat.le_of_ble_eq_true rfl) (Nat.le_of_ble_eq_true rfl) ?_
      refine c_X4_kind (h := h) x2   (show At (d + 2) MX4_madeOn 43 [.long x0, un, .int x2, .long x3, un, .int x5, .int (r_X4_from x2), .int (r_X4_to x2)] [.int (r_X4_kind x2)] h Q from ?_)
      refine At_if_ne (t := 57) (pc' := 46) iX4_madeOn_43 (by decide) rfl (fun c43 => ?_) (fun c43 => ?_)
      · have hp := hp.2 c43
        refine At_lload_n (pc' := 58) iX4_madeOn_57 rfl rfl ?_
        refine At_iload (pc' := 60) iX4_madeOn_58 rfl rfl ?_
        refine At_iload (pc' := 62) iX4_madeOn_60 rfl rfl ?_
        refine At_stat (pc' := 65) iX4_madeOn_62 rfl m_4_49 rfl rfl (Nat.le_of_ble_eq_true rfl) (Nat.le_of_ble_eq_true rfl) (Nat.le_of_ble_eq_true rfl) ?_
        refine c_X6_swapped (h := h) x0 (r_X4_from x2) (r_X4_to x2)   (show At (d + 2) MX4_madeOn 65 [.long x0, un, .int x2, .long x3, un, .int x5, .int (r_X4_from x2), .int (r_X4_to x2)] [.long (r_X6_swapped x0 (r_X4_from x2) (r_X4_to x2))] h Q from ?_)
        simp only [r_X4_madeOn, if_neg c10, if_pos c28, if_neg c43] at k
        exact At_retJ iX4_madeOn_65 rfl k
      · have hp := hp.1 c43
        refine At_lload_n (pc' := 47) iX4_madeOn_46 rfl rfl ?_
        refine At_iload (pc' := 49) iX4_madeOn_47 rfl rfl ?_
        refine At_iload (pc' := 51) iX4_madeOn_49 rfl rfl ?_
        refine At_stat (pc' := 54) iX4_madeOn_51 rfl m_4_46 rfl rfl (Nat.le_of_ble_eq_true rfl) (Nat.le_of_ble_eq_true rfl) (Nat.le_of_ble_eq_true rfl) ?_
        refine c_X6_lifted (h := h) x0 (r_X4_from x2) (r_X4_to x2)   (show At (d + 2) MX4_madeOn 54 [.long x0, un, .int x2, .long x3, un, .int x5, .int (r_X4_from x2), .int (r_X4_to x2)] [.long (r_X6_lifted x0 (r_X4_from x2) (r_X4_to x2))] h Q from ?_)
        refine At_goto (t := 65) iX4_madeOn_54 (by decide) ?_
        simp only [r_X4_madeOn, if_neg c10, if_pos c28, if_pos c43] at k
        exact At_retJ iX4_madeOn_65 rfl k
    · have hp := hp.2 c28
      refine At_lload_n (pc' := 32) iX4_madeOn_31 rfl rfl ?_
      simp only [r_X4_madeOn, if_neg c10, if_neg c28] at k
      exact At_retJ iX4_madeOn_32 rfl k
  · have hp := hp.1 c10
    refine At_lload_n (pc' := 14) iX4_madeOn_13 rfl rfl ?_
    refine At_iload (pc' := 16) iX4_madeOn_14 rfl rfl ?_
    refine At_iload (pc' := 18) iX4_madeOn_16 rfl rfl ?_
    refine At_stat (pc' := 21) iX4_madeOn_18 rfl m_4_38 rfl rfl (Nat.le_of_ble_eq_true rfl) (Nat.le_of_ble_eq_true rfl) (Nat.le_of_ble_eq_true rfl) ?_
    obtain ⟨hp1, hp⟩ := hp
    refine c_X6_turned (h := h) x0 (r_X4_from x2) x5  hp1 (show At (d + 2) MX4_madeOn 21 [.long x0, un, .int x2, .long x3, un, .int x5, .int (r_X4_from x2), un] [.long (r_X6_turned x0 (r_X4_from x2) x5)] h Q from ?_)
    simp only [r_X4_madeOn, if_pos c10] at k
    exact At_retJ iX4_madeOn_21 rfl k
def r_X11_at (x1 : Int32) (x2 : Int32) (h : Hp) : Int32 := if (r_X11_isSlot x1 h) = true then (if (r_X11_isIn x2 (nI 0) (nI 1)) = true then (if x2 = 0 then gI h 60 (((nI 42) + x1).toNatClampNeg) else gI h 60 (((nI 10) + (gI h 60 (((nI 42) + x1).toNatClampNeg))).toNatClampNeg)) else (-1)) else (-1)
def p_X11_at (x1 : Int32) (x2 : Int32) (h : Hp) : Prop := (((r_X11_isSlot x1 h) = true) → ((((r_X11_isIn x2 (nI 0) (nI 1)) = true) → (((x2 = 0) → ((inB ((nI 42) + x1) 4180 = true) ∧ True)) ∧ (¬ (x2 = 0) → ((inB ((nI 42) + x1) 4180 = true) ∧ ((inB ((nI 10) + (gI h 60 (((nI 42) + x1).toNatClampNeg))) 4180 = true) ∧ True))))) ∧ (¬ ((r_X11_isIn x2 (nI 0) (nI 1)) = true) → True))) ∧ (¬ ((r_X11_isSlot x1 h) = true) → True)
set_option maxRecDepth 20000 in
theorem c_X11_at {d : Nat} {T : HT} (hL : Lay T) {h : Hp} (eT : h.2.2 = T) (x1 : Int32) (x2 : Int32)  (hp : p_X11_at x1 x2 h) {Q : Option Value → Hp → Prop} (k : Q (some (.int (r_X11_at x1 x2 h))) h) : Call (d + 2) MX11_at [.ref 59, .int x1, .int x2] h Q := by
  show At (d + 2) MX11_at 0 [.ref 59, .int x1, .int x2] [] h Q
  simp only [p_X11_at] at hp
  refine At_aload_n (pc' := 1) iX11_at_0 rfl rfl ?_
  refine At_iload_n (pc' := 2) iX11_at_1 rfl rfl ?_
  refine At_virt (pc' := 5) iX11_at_2 rfl m_11_78 rfl rfl (kdK eT (kd_59 hL)) (Nat.le_of_ble_eq_true rfl) (Nat.le_of_ble_eq_true rfl) ?_
  refine c_X11_isSlot (h := h) hL eT x1   (show At (d + 2) MX11_at 5 [.ref 59, .int x1, .int x2] [.int (b2i (r_X11_isSlot x1 h))] h Q from ?_)
  refine At_zeq (t := 17) (pc' := 8) iX11_at_5 (by decide) rfl (fun c5 => ?_) (fun c5 => ?_)
  · have hp := hp.2 c5
    refine At_iconst (v := (-1)) (pc' := 18) iX11_at_17 rfl (by decide) ?_
    simp only [r_X11_at, if_neg c5] at k
    exact At_retI iX11_at_18 rfl k
  · have hp := hp.1 c5
    refine At_iload_n (pc' := 9) iX11_at_8 rfl rfl ?_
    refine At_iconst (v := nI 0) (pc' := 10) iX11_at_9 rfl (by decide) ?_
    refine At_iconst (v := nI 1) (pc' := 11) iX11_at_10 rfl (by decide) ?_
    refine At_stat (pc' := 14) iX11_at_11 rfl m_11_72 rfl rfl (Nat.le_of_ble_eq_true rfl) (Nat.le_of_ble_eq_true rfl) (Nat.le_of_ble_eq_true rfl) ?_
    refine c_X11_isIn (h := h) x2 (nI 0) (nI 1)   (show At (d + 2) MX11_at 14 [.ref 59, .int x1, .int x2] [.int (b2i (r_X11_isIn x2 (nI 0) (nI 1)))] h Q from ?_)
    refine At_zne (t := 19) (pc' := 17) iX11_at_14 (by decide) rfl (fun c14 => ?_) (fun c14 => ?_)
    · have hp := hp.1 c14
      refine At_iload_n (pc' := 20) iX11_at_19 rfl rfl ?_
      refine At_if_ne (t := 35) (pc' := 23) iX11_at_20 (by decide) rfl (fun c20 => ?_) (fun c20 => ?_)
      · have hp := hp.2 c20
        refine At_aload_n (pc' := 36) iX11_at_35 rfl rfl ?_
        refine At_getR (pc' := 39) iX11_at_36 rfl f_11_7 (kdK eT (kd_59 hL)) (by decide) (rfH eT (rf_59_0 hL)) ?_
        refine At_bipush (v := nI 10) (pc' := 41) iX11_at_39 rfl (by decide) ?_
        refine At_aload_n (pc' := 42) iX11_at_41 rfl rfl ?_
        refine At_getR (pc' := 45) iX11_at_42 rfl f_11_7 (kdK eT (kd_59 hL)) (by decide) (rfH eT (rf_59_0 hL)) ?_
        refine At_bipush (v := nI 42) (pc' := 47) iX11_at_45 rfl (by decide) ?_
        refine At_iload_n (pc' := 48) iX11_at_47 rfl rfl ?_
        refine At_iadd (pc' := 49) iX11_at_48 rfl ?_
        obtain ⟨hp1, hp⟩ := hp
        refine At_iald (pc' := 50) iX11_at_49 rfl (kdH eT (kd_60 hL)) hp1 (show At (d + 2) MX11_at 50 [.ref 59, .int x1, .int x2] [.int (gI h 60 (((nI 42) + x1).toNatClampNeg)), .int (nI 10), .ref 60] h Q from ?_)
        refine At_iadd (pc' := 51) iX11_at_50 rfl ?_
        obtain ⟨hp2, hp⟩ := hp
        refine At_iald (pc' := 52) iX11_at_51 rfl (kdH eT (kd_60 hL)) hp2 (show At (d + 2) MX11_at 52 [.ref 59, .int x1, .int x2] [.int (gI h 60 (((nI 10) + (gI h 60 (((nI 42) + x1).toNatClampNeg))).toNatClampNeg))] h Q from ?_)
        simp only [r_X11_at, if_pos c5, if_pos c14, if_neg c20] at k
        exact At_retI iX11_at_52 rfl k
      · have hp := hp.1 c20
        refine At_aload_n (pc' := 24) iX11_at_23 rfl rfl ?_
        refine At_getR (pc' := 27) iX11_at_24 rfl f_11_7 (kdK eT (kd_59 hL)) (by decide) (rfH eT (rf_59_0 hL)) ?_
        refine At_bipush (v := nI 42) (pc' := 29) iX11_at_27 rfl (by decide) ?_
        refine At_iload_n (pc' := 30) iX11_at_29 rfl rfl ?_
        refine At_iadd (pc' := 31) iX11_at_30 rfl ?_
        obtain ⟨hp3, hp⟩ := hp
        refine At_iald (pc' := 32) iX11_at_31 rfl (kdH eT (kd_60 hL)) hp3 (show At (d + 2) MX11_at 32 [.ref 59, .int x1, .int x2] [.int (gI h 60 (((nI 42) + x1).toNatClampNeg))] h Q from ?_)
        refine At_goto (t := 52) iX11_at_32 (by decide) ?_
        simp only [r_X11_at, if_pos c5, if_pos c14, if_pos c20] at k
        exact At_retI iX11_at_52 rfl k
    · have hp := hp.2 c14
      refine At_iconst (v := (-1)) (pc' := 18) iX11_at_17 rfl (by decide) ?_
      simp only [r_X11_at, if_pos c5, if_neg c14] at k
      exact At_retI iX11_at_18 rfl k
def r_X11_colour (x1 : Int32) (x2 : Int32) (h : Hp) : Bool := if (r_X11_isSlot x1 h) = true then (if (r_X11_isIn x2 (nI 0) (nI 9)) = true then true else false) else false
def w_X11_colour (x1 : Int32) (x2 : Int32) (h : Hp) : Hp := if (r_X11_isSlot x1 h) = true then (if (r_X11_isIn x2 (nI 0) (nI 9)) = true then (sI (sI h 60 (((nI 10) + x1).toNatClampNeg) x2) 59 3 (nI 0)) else h) else h
def p_X11_colour (x1 : Int32) (x2 : Int32) (h : Hp) : Prop := (((r_X11_isSlot x1 h) = true) → ((((r_X11_isIn x2 (nI 0) (nI 9)) = true) → ((inB ((nI 10) + x1) 4180 = true) ∧ True)) ∧ (¬ ((r_X11_isIn x2 (nI 0) (nI 9)) = true) → True))) ∧ (¬ ((r_X11_isSlot x1 h) = true) → True)
theorem wT_X11_colour (x1 : Int32) (x2 : Int32) (h : Hp) : (w_X11_colour x1 x2 h).2.2 = h.2.2 := by
  unfold w_X11_colour
  repeat' split
  all_goals first | rfl | (simp only [sI_T, sJ_T, cpI_T, wT_dummy]; done)
set_option maxRecDepth 20000 in
theorem c_X11_colour {d : Nat} {T : HT} (hL : Lay T) {h : Hp} (eT : h.2.2 = T) (x1 : Int32) (x2 : Int32)  (hp : p_X11_colour x1 x2 h) {Q : Option Value → Hp → Prop} (k : Q (some (.int (b2i (r_X11_colour x1 x2 h)))) (w_X11_colour x1 x2 h)) : Call (d + 2) MX11_colour [.ref 59, .int x1, .int x2] h Q := by
  show At (d + 2) MX11_colour 0 [.ref 59, .int x1, .int x2] [] h Q
  simp only [p_X11_colour] at hp
  refine At_aload_n (pc' := 1) iX11_colour_0 rfl rfl ?_
  refine At_iload_n (pc' := 2) iX11_colour_1 rfl rfl ?_
  refine At_virt (pc' := 5) iX11_colour_2 rfl m_11_78 rfl rfl (kdK eT (kd_59 hL)) (Nat.le_of_ble_eq_true rfl) (Nat.le_of_ble_eq_true rfl) ?_
  refine c_X11_isSlot (h := h) hL eT x1   (show At (d + 2) MX11_colour 5 [.ref 59, .int x1, .int x2] [.int (b2i (r_X11_isSlot x1 h))] h Q from ?_)
  refine At_zeq (t := 18) (pc' := 8) iX11_colour_5 (by decide) rfl (fun c5 => ?_) (fun c5 => ?_)
  · have hp := hp.2 c5
    refine At_iconst (v := nI 0) (pc' := 19) iX11_colour_18 rfl (by decide) ?_
    simp only [r_X11_colour, w_X11_colour, if_neg c5] at k
    exact At_retF iX11_colour_19 rfl k
  · have hp := hp.1 c5
    refine At_iload_n (pc' := 9) iX11_colour_8 rfl rfl ?_
    refine At_iconst (v := nI 0) (pc' := 10) iX11_colour_9 rfl (by decide) ?_
    refine At_bipush (v := nI 9) (pc' := 12) iX11_colour_10 rfl (by decide) ?_
    refine At_stat (pc' := 15) iX11_colour_12 rfl m_11_72 rfl rfl (Nat.le_of_ble_eq_true rfl) (Nat.le_of_ble_eq_true rfl) (Nat.le_of_ble_eq_true rfl) ?_
    refine c_X11_isIn (h := h) x2 (nI 0) (nI 9)   (show At (d + 2) MX11_colour 15 [.ref 59, .int x1, .int x2] [.int (b2i (r_X11_isIn x2 (nI 0) (nI 9)))] h Q from ?_)
    refine At_zne (t := 20) (pc' := 18) iX11_colour_15 (by decide) rfl (fun c15 => ?_) (fun c15 => ?_)
    · have hp := hp.1 c15
      refine At_aload_n (pc' := 21) iX11_colour_20 rfl rfl ?_
      refine At_getR (pc' := 24) iX11_colour_21 rfl f_11_7 (kdK eT (kd_59 hL)) (by decide) (rfH eT (rf_59_0 hL)) ?_
      refine At_bipush (v := nI 10) (pc' := 26) iX11_colour_24 rfl (by decide) ?_
      refine At_iload_n (pc' := 27) iX11_colour_26 rfl rfl ?_
      refine At_iadd (pc' := 28) iX11_colour_27 rfl ?_
      refine At_iload_n (pc' := 29) iX11_colour_28 rfl rfl ?_
      obtain ⟨hp1, hp⟩ := hp
      refine At_iast (pc' := 30) iX11_colour_29 rfl (kdH eT (kd_60 hL)) hp1 (show At (d + 2) MX11_colour 30 [.ref 59, .int x1, .int x2] [] (sI h 60 (((nI 10) + x1).toNatClampNeg) x2) Q from ?_)
      refine At_aload_n (pc' := 31) iX11_colour_30 rfl rfl ?_
      refine At_iconst (v := nI 0) (pc' := 32) iX11_colour_31 rfl (by decide) ?_
      refine At_putI (pc' := 35) iX11_colour_32 rfl f_11_69 (kdK eT (kd_59 hL)) (Or.inl rfl) (by decide) ?_
      refine At_iconst (v := nI 1) (pc' := 36) iX11_colour_35 rfl (by decide) ?_
      simp only [r_X11_colour, w_X11_colour, if_pos c5, if_pos c15] at k
      exact At_retT iX11_colour_36 rfl k
    · have hp := hp.2 c15
      refine At_iconst (v := nI 0) (pc' := 19) iX11_colour_18 rfl (by decide) ?_
      simp only [r_X11_colour, w_X11_colour, if_pos c5, if_neg c15] at k
      exact At_retF iX11_colour_19 rfl k
def r_X11_doCross (x1 : Int32) (x2 : Int32) (x3 : Int32) (h : Hp) : Bool := if (r_X11_ofMove x1 x2 (nI 1) h) = (r_X11_ofMove x1 x3 (nI 1) h) then true else (if (r_X11_ofMove x1 x2 (nI 1) h) = (r_X11_ofMove x1 x3 (nI 2) h) then true else (if (r_X11_ofMove x1 x2 (nI 2) h) = (r_X11_ofMove x1 x3 (nI 1) h) then true else (if (r_X11_ofMove x1 x2 (nI 2) h) = (r_X11_ofMove x1 x3 (nI 2) h) then true else (if (b2i (r_X11_isWithin (r_X11_ofMove x1 x3 (nI 1) h) (r_X11_ofMove x1 x2 (nI 1) h) (r_X11_ofMove x1 x2 (nI 2) h))) = (b2i (r_X11_isWithin (r_X11_ofMove x1 x3 (nI 2) h) (r_X11_ofMove x1 x2 (nI 1) h) (r_X11_ofMove x1 x2 (nI 2) h))) then false else true))))
def p_X11_doCross (x1 : Int32) (x2 : Int32) (x3 : Int32) (h : Hp) : Prop := (p_X11_ofMove x1 x2 (nI 1) h) ∧ ((p_X11_ofMove x1 x2 (nI 2) h) ∧ ((p_X11_ofMove x1 x3 (nI 1) h) ∧ ((p_X11_ofMove x1 x3 (nI 2) h) ∧ ((((r_X11_ofMove x1 x2 (nI 1) h) = (r_X11_ofMove x1 x3 (nI 1) h)) → True) ∧ (¬ ((r_X11_ofMove x1 x2 (nI 1) h) = (r_X11_ofMove x1 x3 (nI 1) h)) → ((((r_X11_ofMove x1 x2 (nI 1) h) = (r_X11_ofMove x1 x3 (nI 2) h)) → True) ∧ (¬ ((r_X11_ofMove x1 x2 (nI 1) h) = (r_X11_ofMove x1 x3 (nI 2) h)) → ((((r_X11_ofMove x1 x2 (nI 2) h) = (r_X11_ofMove x1 x3 (nI 1) h)) → True) ∧ (¬ ((r_X11_ofMove x1 x2 (nI 2) h) = (r_X11_ofMove x1 x3 (nI 1) h)) → ((((r_X11_ofMove x1 x2 (nI 2) h) = (r_X11_ofMove x1 x3 (nI 2) h)) → True) ∧ (¬ ((r_X11_ofMove x1 x2 (nI 2) h) = (r_X11_ofMove x1 x3 (nI 2) h)) → ((((b2i (r_X11_isWithin (r_X11_ofMove x1 x3 (nI 1) h) (r_X11_ofMove x1 x2 (nI 1) h) (r_X11_ofMove x1 x2 (nI 2) h))) = (b2i (r_X11_isWithin (r_X11_ofMove x1 x3 (nI 2) h) (r_X11_ofMove x1 x2 (nI 1) h) (r_X11_ofMove x1 x2 (nI 2) h)))) → True) ∧ (¬ ((b2i (r_X11_isWithin (r_X11_ofMove x1 x3 (nI 1) h) (r_X11_ofMove x1 x2 (nI 1) h) (r_X11_ofMove x1 x2 (nI 2) h))) = (b2i (r_X11_isWithin (r_X11_ofMove x1 x3 (nI 2) h) (r_X11_ofMove x1 x2 (nI 1) h) (r_X11_ofMove x1 x2 (nI 2) h)))) → True)))))))))))))
set_option maxRecDepth 20000 in
theorem c_X11_doCross {d : Nat} {T : HT} (hL : Lay T) {h : Hp} (eT : h.2.2 = T) (x1 : Int32) (x2 : Int32) (x3 : Int32)  (hp : p_X11_doCross x1 x2 x3 h) {Q : Option Value → Hp → Prop} (k : Q (some (.int (b2i (r_X11_doCross x1 x2 x3 h)))) h) : Call (d + 2) MX11_doCross [.ref 59, .int x1, .int x2, .int x3] h Q := by
  show At (d + 2) MX11_doCross 0 [.ref 59, .int x1, .int x2, .int x3, un, un, un, un] [] h Q
  simp only [p_X11_doCross] at hp
  refine At_aload_n (pc' := 1) iX11_doCross_0 rfl rfl ?_
  refine At_iload_n (pc' := 2) iX11_doCross_1 rfl rfl ?_
  refine At_iload_n (pc' := 3) iX11_doCross_2 rfl rfl ?_
  refine At_iconst (v := nI 1) (pc' := 4) iX11_doCross_3 rfl (by decide) ?_
  refine At_virt (pc' := 7) iX11_doCross_4 rfl m_11_185 rfl rfl (kdK eT (kd_59 hL)) (Nat.le_of_ble_eq_true rfl) (Nat.le_of_ble_eq_true rfl) ?_
  obtain ⟨hp1, hp⟩ := hp
  refine c_X11_ofMove (h := h) hL eT x1 x2 (nI 1)  hp1 (show At (d + 2) MX11_doCross 7 [.ref 59, .int x1, .int x2, .int x3, un, un, un, un] [.int (r_X11_ofMove x1 x2 (nI 1) h)] h Q from ?_)
  refine At_istore (L' := [.ref 59, .int x1, .int x2, .int x3, .int (r_X11_ofMove x1 x2 (nI 1) h), un, un, un]) (pc' := 9) iX11_doCross_7 rfl (Nat.le_of_ble_eq_true rfl) rfl ?_
  refine At_aload_n (pc' := 10) iX11_doCross_9 rfl rfl ?_
  refine At_iload_n (pc' := 11) iX11_doCross_10 rfl rfl ?_
  refine At_iload_n (pc' := 12) iX11_doCross_11 rfl rfl ?_
  refine At_iconst (v := nI 2) (pc' := 13) iX11_doCross_12 rfl (by decide) ?_
  refine At_virt (pc' := 16) iX11_doCross_13 rfl m_11_185 rfl rfl (kdK eT (kd_59 hL)) (Nat.le_of_ble_eq_true rfl) (Nat.le_of_ble_eq_true rfl) ?_
  obtain ⟨hp2, hp⟩ := hp
  refine c_X11_ofMove (h := h) hL eT x1 x2 (nI 2)  hp2 (show At (d + 2) MX11_doCross 16 [.ref 59, .int x1, .int x2, .int x3, .int (r_X11_ofMove x1 x2 (nI 1) h), un, un, un] [.int (r_X11_ofMove x1 x2 (nI 2) h)] h Q from ?_)
  refine At_istore (L' := [.ref 59, .int x1, .int x2, .int x3, .int (r_X11_ofMove x1 x2 (nI 1) h), .int (r_X11_ofMove x1 x2 (nI 2) h), un, un]) (pc' := 18) iX11_doCross_16 rfl (Nat.le_of_ble_eq_true rfl) rfl ?_
  refine At_aload_n (pc' := 19) iX11_doCross_18 rfl rfl ?_
  refine At_iload_n (pc' := 20) iX11_doCross_19 rfl rfl ?_
  refine At_iload_n (pc' := 21) iX11_doCross_20 rfl rfl ?_
  refine At_iconst (v := nI 1) (pc' := 22) iX11_doCross_21 rfl (by decide) ?_
  refine At_virt (pc' := 25) iX11_doCross_22 rfl m_11_185 rfl rfl (kdK eT (kd_59 hL)) (Nat.le_of_ble_eq_true rfl) (Nat.le_of_ble_eq_true rfl) ?_
  obtain ⟨hp3, hp⟩ := hp
  refine c_X11_ofMove (h := h) hL eT x1 x3 (nI 1)  hp3 (show At (d + 2) MX11_doCross 25 [.ref 59, .int x1, .int x2, .int x3, .int (r_X11_ofMove x1 x2 (nI 1) h), .int (r_X11_ofMove x1 x2 (nI 2) h), un, un] [.int (r_X11_ofMove x1 x3 (nI 1) h)] h Q from ?_)
  refine At_istore (L' := [.ref 59, .int x1, .int x2, .int x3, .int (r_X11_ofMove x1 x2 (nI 1) h), .int (r_X11_ofMove x1 x2 (nI 2) h), .int (r_X11_ofMove x1 x3 (nI 1) h), un]) (pc' := 27) iX11_doCross_25 rfl (Nat.le_of_ble_eq_true rfl) rfl ?_
  refine At_aload_n (pc' := 28) iX11_doCross_27 rfl rfl ?_
  refine At_iload_n (pc' := 29) iX11_doCross_28 rfl rfl ?_
  refine At_iload_n (pc' := 30) iX11_doCross_29 rfl rfl ?_
  refine At_iconst (v := nI 2) (pc' := 31) iX11_doCross_30 rfl (by decide) ?_
  refine At_virt (pc' := 34) iX11_doCross_31 rfl m_11_185 rfl rfl (kdK eT (kd_59 hL)) (Nat.le_of_ble_eq_true rfl) (Nat.le_of_ble_eq_true rfl) ?_
  obtain ⟨hp4, hp⟩ := hp
  refine c_X11_ofMove (h := h) hL eT x1 x3 (nI 2)  hp4 (show At (d + 2) MX11_doCross 34 [.ref 59, .int x1, .int x2, .int x3, .int (r_X11_ofMove x1 x2 (nI 1) h), .int (r_X11_ofMove x1 x2 (nI 2) h), .int (r_X11_ofMove x1 x3 (nI 1) h), un] [.int (r_X11_ofMove x1 x3 (nI 2) h)] h Q from ?_)
  refine At_istore (L' := [.ref 59, .int x1, .int x2, .int x3, .int (r_X11_ofMove x1 x2 (nI 1) h), .int (r_X11_ofMove x1 x2 (nI 2) h), .int (r_X11_ofMove x1 x3 (nI 1) h), .int (r_X11_ofMove x1 x3 (nI 2) h)]) (pc' := 36) iX11_doCross_34 rfl (Nat.le_of_ble_eq_true rfl) rfl ?_
  refine At_iload (pc' := 38) iX11_doCross_36 rfl rfl ?_
  refine At_iload (pc' := 40) iX11_doCross_38 rfl rfl ?_
  refine At_icmp_eq (t := 85) (pc' := 43) iX11_doCross_40 (by decide) rfl (fun c40 => ?_) (fun c40 => ?_)
  · have hp := hp.1 c40
    refine At_iconst (v := nI 1) (pc' := 86) iX11_doCross_85 rfl (by decide) ?_
    refine At_goto (t := 90) iX11_doCross_86 (by decide) ?_
    simp only [r_X11_doCross, if_pos c40] at k
    exact At_retT iX11_doCross_90 rfl k
  · have hp := hp.2 c40
    refine At_iload (pc' := 45) iX11_doCross_43 rfl rfl ?_
    refine At_iload (pc' := 47) iX11_doCross_45 rfl rfl ?_
    refine At_icmp_eq (t := 85) (pc' := 50) iX11_doCross_47 (by decide) rfl (fun c47 => ?_) (fun c47 => ?_)
    · have hp := hp.1 c47
      refine At_iconst (v := nI 1) (pc' := 86) iX11_doCross_85 rfl (by decide) ?_
      refine At_goto (t := 90) iX11_doCross_86 (by decide) ?_
      simp only [r_X11_doCross, if_neg c40, if_pos c47] at k
      exact At_retT iX11_doCross_90 rfl k
    · have hp := hp.2 c47
      refine At_iload (pc' := 52) iX11_doCross_50 rfl rfl ?_
      refine At_iload (pc' := 54) iX11_doCross_52 rfl rfl ?_
      refine At_icmp_eq (t := 85) (pc' := 57) iX11_doCross_54 (by decide) rfl (fun c54 => ?_) (fun c54 => ?_)
      · have hp := hp.1 c54
        refine At_iconst (v := nI 1) (pc' := 86) iX11_doCross_85 rfl (by decide) ?_
        refine At_goto (t := 90) iX11_doCross_86 (by decide) ?_
        simp only [r_X11_doCross, if_neg c40, if_neg c47, if_pos c54] at k
        exact At_retT iX11_doCross_90 rfl k
      · have hp := hp.2 c54
        refine At_iload (pc' := 59) iX11_doCross_57 rfl rfl ?_
        refine At_iload (pc' := 61) iX11_doCross_59 rfl rfl ?_
        refine At_icmp_eq (t := 85) (pc' := 64) iX11_doCross_61 (by decide) rfl (fun c61 => ?_) (fun c61 => ?_)
        · have hp := hp.1 c61
          refine At_iconst (v := nI 1) (pc' := 86) iX11_doCross_85 rfl (by decide) ?_
          refine At_goto (t := 90) iX11_doCross_86 (by decide) ?_
          simp only [r_X11_doCross, if_neg c40, if_neg c47, if_neg c54, if_pos c61] at k
          exact At_retT iX11_doCross_90 rfl k
        · have hp := hp.2 c61
          refine At_iload (pc' := 66) iX11_doCross_64 rfl rfl ?_
          refine At_iload (pc' := 68) iX11_doCross_66 rfl rfl ?_
          refine At_iload (pc' := 70) iX11_doCross_68 rfl rfl ?_
          refine At_stat (pc' := 73) iX11_doCross_70 rfl m_11_264 rfl rfl (Nat.le_of_ble_eq_true rfl) (Nat.le_of_ble_eq_true rfl) (Nat.le_of_ble_eq_true rfl) ?_
          refine c_X11_isWithin (h := h) (r_X11_ofMove x1 x3 (nI 1) h) (r_X11_ofMove x1 x2 (nI 1) h) (r_X11_ofMove x1 x2 (nI 2) h)   (show At (d + 2) MX11_doCross 73 [.ref 59, .int x1, .int x2, .int x3, .int (r_X11_ofMove x1 x2 (nI 1) h), .int (r_X11_ofMove x1 x2 (nI 2) h), .int (r_X11_ofMove x1 x3 (nI 1) h), .int (r_X11_ofMove x1 x3 (nI 2) h)] [.int (b2i (r_X11_isWithin (r_X11_ofMove x1 x3 (nI 1) h) (r_X11_ofMove x1 x2 (nI 1) h) (r_X11_ofMove x1 x2 (nI 2) h)))] h Q from ?_)
          refine At_iload (pc' := 75) iX11_doCross_73 rfl rfl ?_
          refine At_iload (pc' := 77) iX11_doCross_75 rfl rfl ?_
          refine At_iload (pc' := 79) iX11_doCross_77 rfl rfl ?_
          refine At_stat (pc' := 82) iX11_doCross_79 rfl m_11_264 rfl rfl (Nat.le_of_ble_eq_true rfl) (Nat.le_of_ble_eq_true rfl) (Nat.le_of_ble_eq_true rfl) ?_
          refine c_X11_isWithin (h := h) (r_X11_ofMove x1 x3 (nI 2) h) (r_X11_ofMove x1 x2 (nI 1) h) (r_X11_ofMove x1 x2 (nI 2) h)   (show At (d + 2) MX11_doCross 82 [.ref 59, .int x1, .int x2, .int x3, .int (r_X11_ofMove x1 x2 (nI 1) h), .int (r_X11_ofMove x1 x2 (nI 2) h), .int (r_X11_ofMove x1 x3 (nI 1) h), .int (r_X11_ofMove x1 x3 (nI 2) h)] [.int (b2i (r_X11_isWithin (r_X11_ofMove x1 x3 (nI 2) h) (r_X11_ofMove x1 x2 (nI 1) h) (r_X11_ofMove x1 x2 (nI 2) h))), .int (b2i (r_X11_isWithin (r_X11_ofMove x1 x3 (nI 1) h) (r_X11_ofMove x1 x2 (nI 1) h) (r_X11_ofMove x1 x2 (nI 2) h)))] h Q from ?_)
          refine At_icmp_eq (t := 89) (pc' := 85) iX11_doCross_82 (by decide) rfl (fun c82 => ?_) (fun c82 => ?_)
          · have hp := hp.1 c82
            refine At_iconst (v := nI 0) (pc' := 90) iX11_doCross_89 rfl (by decide) ?_
            simp only [r_X11_doCross, if_neg c40, if_neg c47, if_neg c54, if_neg c61, if_pos c82] at k
            exact At_retF iX11_doCross_90 rfl k
          · have hp := hp.2 c82
            refine At_iconst (v := nI 1) (pc' := 86) iX11_doCross_85 rfl (by decide) ?_
            refine At_goto (t := 90) iX11_doCross_86 (by decide) ?_
            simp only [r_X11_doCross, if_neg c40, if_neg c47, if_neg c54, if_neg c61, if_neg c82] at k
            exact At_retT iX11_doCross_90 rfl k
def r_X11_over (x1 : Int32) (x2 : Int32) (h : Hp) : Int32 := if (r_X11_isSlot x1 h) = true then (if (r_X11_isSlot x2 h) = true then (if x1 = x2 then (-1) else gI h 60 ((((nI 60) + ((nI 16) * x1)) + x2).toNatClampNeg)) else (-1)) else (-1)
def p_X11_over (x1 : Int32) (x2 : Int32) (h : Hp) : Prop := (((r_X11_isSlot x1 h) = true) → ((((r_X11_isSlot x2 h) = true) → (((x1 = x2) → True) ∧ (¬ (x1 = x2) → ((inB (((nI 60) + ((nI 16) * x1)) + x2) 4180 = true) ∧ True)))) ∧ (¬ ((r_X11_isSlot x2 h) = true) → True))) ∧ (¬ ((r_X11_isSlot x1 h) = true) → True)
set_option maxRecDepth 20000 in
theorem c_X11_over {d : Nat} {T : HT} (hL : Lay T) {h : Hp} (eT : h.2.2 = T) (x1 : Int32) (x2 : Int32)  (hp : p_X11_over x1 x2 h) {Q : Option Value → Hp → Prop} (k : Q (some (.int (r_X11_over x1 x2 h))) h) : Call (d + 2) MX11_over [.ref 59, .int x1, .int x2] h Q := by
  show At (d + 2) MX11_over 0 [.ref 59, .int x1, .int x2] [] h Q
  simp only [p_X11_over] at hp
  refine At_aload_n (pc' := 1) iX11_over_0 rfl rfl ?_
  refine At_iload_n (pc' := 2) iX11_over_1 rfl rfl ?_
  refine At_virt (pc' := 5) iX11_over_2 rfl m_11_78 rfl rfl (kdK eT (kd_59 hL)) (Nat.le_of_ble_eq_true rfl) (Nat.le_of_ble_eq_true rfl) ?_
  refine c_X11_isSlot (h := h) hL eT x1   (show At (d + 2) MX11_over 5 [.ref 59, .int x1, .int x2] [.int (b2i (r_X11_isSlot x1 h))] h Q from ?_)
  refine At_zeq (t := 38) (pc' := 8) iX11_over_5 (by decide) rfl (fun c5 => ?_) (fun c5 => ?_)
  · have hp := hp.2 c5
    refine At_iconst (v := (-1)) (pc' := 39) iX11_over_38 rfl (by decide) ?_
    simp only [r_X11_over, if_neg c5] at k
    exact At_retI iX11_over_39 rfl k
  · have hp := hp.1 c5
    refine At_aload_n (pc' := 9) iX11_over_8 rfl rfl ?_
    refine At_iload_n (pc' := 10) iX11_over_9 rfl rfl ?_
    refine At_virt (pc' := 13) iX11_over_10 rfl m_11_78 rfl rfl (kdK eT (kd_59 hL)) (Nat.le_of_ble_eq_true rfl) (Nat.le_of_ble_eq_true rfl) ?_
    refine c_X11_isSlot (h := h) hL eT x2   (show At (d + 2) MX11_over 13 [.ref 59, .int x1, .int x2] [.int (b2i (r_X11_isSlot x2 h))] h Q from ?_)
    refine At_zeq (t := 38) (pc' := 16) iX11_over_13 (by decide) rfl (fun c13 => ?_) (fun c13 => ?_)
    · have hp := hp.2 c13
      refine At_iconst (v := (-1)) (pc' := 39) iX11_over_38 rfl (by decide) ?_
      simp only [r_X11_over, if_pos c5, if_neg c13] at k
      exact At_retI iX11_over_39 rfl k
    · have hp := hp.1 c13
      refine At_iload_n (pc' := 17) iX11_over_16 rfl rfl ?_
      refine At_iload_n (pc' := 18) iX11_over_17 rfl rfl ?_
      refine At_icmp_eq (t := 38) (pc' := 21) iX11_over_18 (by decide) rfl (fun c18 => ?_) (fun c18 => ?_)
      · have hp := hp.1 c18
        refine At_iconst (v := (-1)) (pc' := 39) iX11_over_38 rfl (by decide) ?_
        simp only [r_X11_over, if_pos c5, if_pos c13, if_pos c18] at k
        exact At_retI iX11_over_39 rfl k
      · have hp := hp.2 c18
        refine At_aload_n (pc' := 22) iX11_over_21 rfl rfl ?_
        refine At_getR (pc' := 25) iX11_over_22 rfl f_11_7 (kdK eT (kd_59 hL)) (by decide) (rfH eT (rf_59_0 hL)) ?_
        refine At_bipush (v := nI 60) (pc' := 27) iX11_over_25 rfl (by decide) ?_
        refine At_bipush (v := nI 16) (pc' := 29) iX11_over_27 rfl (by decide) ?_
        refine At_iload_n (pc' := 30) iX11_over_29 rfl rfl ?_
        refine At_imul (pc' := 31) iX11_over_30 rfl ?_
        refine At_iadd (pc' := 32) iX11_over_31 rfl ?_
        refine At_iload_n (pc' := 33) iX11_over_32 rfl rfl ?_
        refine At_iadd (pc' := 34) iX11_over_33 rfl ?_
        obtain ⟨hp1, hp⟩ := hp
        refine At_iald (pc' := 35) iX11_over_34 rfl (kdH eT (kd_60 hL)) hp1 (show At (d + 2) MX11_over 35 [.ref 59, .int x1, .int x2] [.int (gI h 60 ((((nI 60) + ((nI 16) * x1)) + x2).toNatClampNeg))] h Q from ?_)
        refine At_goto (t := 39) iX11_over_35 (by decide) ?_
        simp only [r_X11_over, if_pos c5, if_pos c13, if_neg c18] at k
        exact At_retI iX11_over_39 rfl k
def r_X11_want (x1 : Int32) (x2 : Int32) (h : Hp) : Bool := if (r_X11_isSlot x1 h) = true then (if (r_X11_isIn x2 (nI 0) (nI 9)) = true then true else false) else false
def w_X11_want (x1 : Int32) (x2 : Int32) (h : Hp) : Hp := if (r_X11_isSlot x1 h) = true then (if (r_X11_isIn x2 (nI 0) (nI 9)) = true then (sI h 60 (((nI 920) + x1).toNatClampNeg) x2) else h) else h
def p_X11_want (x1 : Int32) (x2 : Int32) (h : Hp) : Prop := (((r_X11_isSlot x1 h) = true) → ((((r_X11_isIn x2 (nI 0) (nI 9)) = true) → ((inB ((nI 920) + x1) 4180 = true) ∧ True)) ∧ (¬ ((r_X11_isIn x2 (nI 0) (nI 9)) = true) → True))) ∧ (¬ ((r_X11_isSlot x1 h) = true) → True)
theorem wT_X11_want (x1 : Int32) (x2 : Int32) (h : Hp) : (w_X11_want x1 x2 h).2.2 = h.2.2 := by
  unfold w_X11_want
  repeat' split
  all_goals first | rfl | (simp only [sI_T, sJ_T, cpI_T, wT_dummy]; done)
set_option maxRecDepth 20000 in
theorem c_X11_want {d : Nat} {T : HT} (hL : Lay T) {h : Hp} (eT : h.2.2 = T) (x1 : Int32) (x2 : Int32)  (hp : p_X11_want x1 x2 h) {Q : Option Value → Hp → Prop} (k : Q (some (.int (b2i (r_X11_want x1 x2 h)))) (w_X11_want x1 x2 h)) : Call (d + 2) MX11_want [.ref 59, .int x1, .int x2] h Q := by
  show At (d + 2) MX11_want 0 [.ref 59, .int x1, .int x2] [] h Q
  simp only [p_X11_want] at hp
  refine At_aload_n (pc' := 1) iX11_want_0 rfl rfl ?_
  refine At_iload_n (pc' := 2) iX11_want_1 rfl rfl ?_
  refine At_virt (pc' := 5) iX11_want_2 rfl m_11_78 rfl rfl (kdK eT (kd_59 hL)) (Nat.le_of_ble_eq_true rfl) (Nat.le_of_ble_eq_true rfl) ?_
  refine c_X11_isSlot (h := h) hL eT x1   (show At (d + 2) MX11_want 5 [.ref 59, .int x1, .int x2] [.int (b2i (r_X11_isSlot x1 h))] h Q from ?_)
  refine At_zeq (t := 18) (pc' := 8) iX11_want_5 (by decide) rfl (fun c5 => ?_) (fun c5 => ?_)
  · have hp := hp.2 c5
    refine At_iconst (v := nI 0) (pc' := 19) iX11_want_18 rfl (by decide) ?_
    simp only [r_X11_want, w_X11_want, if_neg c5] at k
    exact At_retF iX11_want_19 rfl k
  · have hp := hp.1 c5
    refine At_iload_n (pc' := 9) iX11_want_8 rfl rfl ?_
    refine At_iconst (v := nI 0) (pc' := 10) iX11_want_9 rfl (by decide) ?_
    refine At_bipush (v := nI 9) (pc' := 12) iX11_want_10 rfl (by decide) ?_
    refine At_stat (pc' := 15) iX11_want_12 rfl m_11_72 rfl rfl (Nat.le_of_ble_eq_true rfl) (Nat.le_of_ble_eq_true rfl) (Nat.le_of_ble_eq_true rfl) ?_
    refine c_X11_isIn (h := h) x2 (nI 0) (nI 9)   (show At (d + 2) MX11_want 15 [.ref 59, .int x1, .int x2] [.int (b2i (r_X11_isIn x2 (nI 0) (nI 9)))] h Q from ?_)
    refine At_zne (t := 20) (pc' := 18) iX11_want_15 (by decide) rfl (fun c15 => ?_) (fun c15 => ?_)
    · have hp := hp.1 c15
      refine At_aload_n (pc' := 21) iX11_want_20 rfl rfl ?_
      refine At_getR (pc' := 24) iX11_want_21 rfl f_11_7 (kdK eT (kd_59 hL)) (by decide) (rfH eT (rf_59_0 hL)) ?_
      refine At_sipush (v := nI 920) (pc' := 27) iX11_want_24 rfl (by decide) ?_
      refine At_iload_n (pc' := 28) iX11_want_27 rfl rfl ?_
      refine At_iadd (pc' := 29) iX11_want_28 rfl ?_
      refine At_iload_n (pc' := 30) iX11_want_29 rfl rfl ?_
      obtain ⟨hp1, hp⟩ := hp
      refine At_iast (pc' := 31) iX11_want_30 rfl (kdH eT (kd_60 hL)) hp1 (show At (d + 2) MX11_want 31 [.ref 59, .int x1, .int x2] [] (sI h 60 (((nI 920) + x1).toNatClampNeg) x2) Q from ?_)
      refine At_iconst (v := nI 1) (pc' := 32) iX11_want_31 rfl (by decide) ?_
      simp only [r_X11_want, w_X11_want, if_pos c5, if_pos c15] at k
      exact At_retT iX11_want_32 rfl k
    · have hp := hp.2 c15
      refine At_iconst (v := nI 0) (pc' := 19) iX11_want_18 rfl (by decide) ?_
      simp only [r_X11_want, w_X11_want, if_pos c5, if_neg c15] at k
      exact At_retF iX11_want_19 rfl k
