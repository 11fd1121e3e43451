-- methods that are functions; written out by gen20.py
def r_X11_fault (x1 : Int32) (h : Hp) : Int32 := if x1 = 0 then gI h 59 15 else (if x1 = (nI 1) then gI h 59 16 else (-1))
set_option maxRecDepth 20000 in
theorem c_X11_fault {d : Nat} {T : HT} (hL : Lay T) {h : Hp} (eT : h.2.2 = T) (x1 : Int32)  {Q : Option Value → Hp → Prop} (k : Q (some (.int (r_X11_fault x1 h))) h) : Call (d + 0) MX11_fault [.ref 59, .int x1] h Q := by
  show At (d + 0) MX11_fault 0 [.ref 59, .int x1] [] h Q
  refine At_iload_n (pc' := 1) iX11_fault_0 rfl rfl ?_
  refine At_if_ne (t := 11) (pc' := 4) iX11_fault_1 (by decide) rfl (fun c1 => ?_) (fun c1 => ?_)
  · refine At_iload_n (pc' := 12) iX11_fault_11 rfl rfl ?_
    refine At_iconst (v := nI 1) (pc' := 13) iX11_fault_12 rfl (by decide) ?_
    refine At_icmp_ne (t := 23) (pc' := 16) iX11_fault_13 (by decide) rfl (fun c13 => ?_) (fun c13 => ?_)
    · refine At_iconst (v := (-1)) (pc' := 24) iX11_fault_23 rfl (by decide) ?_
      simp only [r_X11_fault, if_neg c1, if_neg c13] at k
      exact At_retI iX11_fault_24 rfl k
    · refine At_aload_n (pc' := 17) iX11_fault_16 rfl rfl ?_
      refine At_getI (pc' := 20) iX11_fault_17 rfl f_11_25 (kdK eT (kd_59 hL)) (by decide) ?_
      refine At_goto (t := 24) iX11_fault_20 (by decide) ?_
      simp only [r_X11_fault, if_neg c1, if_pos c13] at k
      exact At_retI iX11_fault_24 rfl k
  · refine At_aload_n (pc' := 5) iX11_fault_4 rfl rfl ?_
    refine At_getI (pc' := 8) iX11_fault_5 rfl f_11_175 (kdK eT (kd_59 hL)) (by decide) ?_
    refine At_goto (t := 24) iX11_fault_8 (by decide) ?_
    simp only [r_X11_fault, if_pos c1] at k
    exact At_retI iX11_fault_24 rfl k
def w_X11_goesOver (x1 : Int32) (x2 : Int32) (x3 : Int32) (h : Hp) : Hp := if x3 = 0 then (sI h 60 ((((nI 60) + ((nI 16) * x1)) + x2).toNatClampNeg) ((gI h 60 ((((nI 60) + ((nI 16) * x1)) + x2).toNatClampNeg)) + (nI 0))) else (sI h 60 ((((nI 60) + ((nI 16) * x1)) + x2).toNatClampNeg) ((gI h 60 ((((nI 60) + ((nI 16) * x1)) + x2).toNatClampNeg)) + (nI 1)))
def p_X11_goesOver (x1 : Int32) (x2 : Int32) (x3 : Int32) (h : Hp) : Prop := (inB (((nI 60) + ((nI 16) * x1)) + x2) 4180 = true) ∧ (((x3 = 0) → ((inB (((nI 60) + ((nI 16) * x1)) + x2) 4180 = true) ∧ True)) ∧ (¬ (x3 = 0) → ((inB (((nI 60) + ((nI 16) * x1)) + x2) 4180 = true) ∧ True)))
theorem wT_X11_goesOver (x1 : Int32) (x2 : Int32) (x3 : Int32) (h : Hp) : (w_X11_goesOver x1 x2 x3 h).2.2 = h.2.2 := by
  unfold w_X11_goesOver
  repeat' split
  all_goals first | rfl | (simp only [sI_T, sJ_T, cpI_T, wT_dummy]; done)
set_option maxRecDepth 20000 in
theorem c_X11_goesOver {d : Nat} {T : HT} (hL : Lay T) {h : Hp} (eT : h.2.2 = T) (x1 : Int32) (x2 : Int32) (x3 : Int32)  (hp : p_X11_goesOver x1 x2 x3 h) {Q : Option Value → Hp → Prop} (k : Q none (w_X11_goesOver x1 x2 x3 h)) : Call (d + 0) MX11_goesOver [.ref 59, .int x1, .int x2, .int x3] h Q := by
  show At (d + 0) MX11_goesOver 0 [.ref 59, .int x1, .int x2, .int x3] [] h Q
  simp only [p_X11_goesOver] at hp
  refine At_aload_n (pc' := 1) iX11_goesOver_0 rfl rfl ?_
  refine At_getR (pc' := 4) iX11_goesOver_1 rfl f_11_7 (kdK eT (kd_59 hL)) (by decide) (rfH eT (rf_59_0 hL)) ?_
  refine At_bipush (v := nI 60) (pc' := 6) iX11_goesOver_4 rfl (by decide) ?_
  refine At_bipush (v := nI 16) (pc' := 8) iX11_goesOver_6 rfl (by decide) ?_
  refine At_iload_n (pc' := 9) iX11_goesOver_8 rfl rfl ?_
  refine At_imul (pc' := 10) iX11_goesOver_9 rfl ?_
  refine At_iadd (pc' := 11) iX11_goesOver_10 rfl ?_
  refine At_iload_n (pc' := 12) iX11_goesOver_11 rfl rfl ?_
  refine At_iadd (pc' := 13) iX11_goesOver_12 rfl ?_
  refine At_dup2 (pc' := 14) iX11_goesOver_13 rfl rfl rfl ?_
  obtain ⟨hp1, hp⟩ := hp
  refine At_iald (pc' := 15) iX11_goesOver_14 rfl (kdH eT (kd_60 hL)) hp1 (show At (d + 0) MX11_goesOver 15 [.ref 59, .int x1, .int x2, .int x3] [.int (gI h 60 ((((nI 60) + ((nI 16) * x1)) + x2).toNatClampNeg)), .int (((nI 60) + ((nI 16) * x1)) + x2), .ref 60] h Q from ?_)
  refine At_iload_n (pc' := 16) iX11_goesOver_15 rfl rfl ?_
  refine At_if_eq (t := 23) (pc' := 19) iX11_goesOver_16 (by decide) rfl (fun c16 => ?_) (fun c16 => ?_)
  · have hp := hp.1 c16
    refine At_iconst (v := nI 0) (pc' := 24) iX11_goesOver_23 rfl (by decide) ?_
    refine At_iadd (pc' := 25) iX11_goesOver_24 rfl ?_
    obtain ⟨hp2, hp⟩ := hp
    refine At_iast (pc' := 26) iX11_goesOver_25 rfl (kdH eT (kd_60 hL)) hp2 (show At (d + 0) MX11_goesOver 26 [.ref 59, .int x1, .int x2, .int x3] [] (sI h 60 ((((nI 60) + ((nI 16) * x1)) + x2).toNatClampNeg) ((gI h 60 ((((nI 60) + ((nI 16) * x1)) + x2).toNatClampNeg)) + (nI 0))) Q from ?_)
    simp only [w_X11_goesOver, if_pos c16] at k
    exact At_retV iX11_goesOver_26 rfl k
  · have hp := hp.2 c16
    refine At_iconst (v := nI 1) (pc' := 20) iX11_goesOver_19 rfl (by decide) ?_
    refine At_goto (t := 24) iX11_goesOver_20 (by decide) ?_
    refine At_iadd (pc' := 25) iX11_goesOver_24 rfl ?_
    obtain ⟨hp3, hp⟩ := hp
    refine At_iast (pc' := 26) iX11_goesOver_25 rfl (kdH eT (kd_60 hL)) hp3 (show At (d + 0) MX11_goesOver 26 [.ref 59, .int x1, .int x2, .int x3] [] (sI h 60 ((((nI 60) + ((nI 16) * x1)) + x2).toNatClampNeg) ((gI h 60 ((((nI 60) + ((nI 16) * x1)) + x2).toNatClampNeg)) + (nI 1))) Q from ?_)
    simp only [w_X11_goesOver, if_neg c16] at k
    exact At_retV iX11_goesOver_26 rfl k
def r_X11_isIn (x0 : Int32) (x1 : Int32) (x2 : Int32) : Bool := if x0 < x1 then false else (if x2 < x0 then false else true)
set_option maxRecDepth 20000 in
theorem c_X11_isIn {d : Nat} {h : Hp} (x0 : Int32) (x1 : Int32) (x2 : Int32)  {Q : Option Value → Hp → Prop} (k : Q (some (.int (b2i (r_X11_isIn x0 x1 x2)))) h) : Call (d + 0) MX11_isIn [.int x0, .int x1, .int x2] h Q := by
  show At (d + 0) MX11_isIn 0 [.int x0, .int x1, .int x2] [] h Q
  refine At_iload_n (pc' := 1) iX11_isIn_0 rfl rfl ?_
  refine At_iload_n (pc' := 2) iX11_isIn_1 rfl rfl ?_
  refine At_icmp_lt (t := 14) (pc' := 5) iX11_isIn_2 (by decide) rfl (fun c2 => ?_) (fun c2 => ?_)
  · refine At_iconst (v := nI 0) (pc' := 15) iX11_isIn_14 rfl (by decide) ?_
    simp only [r_X11_isIn, if_pos c2] at k
    exact At_retF iX11_isIn_15 rfl k
  · refine At_iload_n (pc' := 6) iX11_isIn_5 rfl rfl ?_
    refine At_iload_n (pc' := 7) iX11_isIn_6 rfl rfl ?_
    refine At_icmp_gt (t := 14) (pc' := 10) iX11_isIn_7 (by decide) rfl (fun c7 => ?_) (fun c7 => ?_)
    · refine At_iconst (v := nI 0) (pc' := 15) iX11_isIn_14 rfl (by decide) ?_
      simp only [r_X11_isIn, if_neg c2, if_pos c7] at k
      exact At_retF iX11_isIn_15 rfl k
    · refine At_iconst (v := nI 1) (pc' := 11) iX11_isIn_10 rfl (by decide) ?_
      refine At_goto (t := 15) iX11_isIn_11 (by decide) ?_
      simp only [r_X11_isIn, if_neg c2, if_neg c7] at k
      exact At_retT iX11_isIn_15 rfl k
def r_X11_ofMove (x1 : Int32) (x2 : Int32) (x3 : Int32) (h : Hp) : Int32 := gI h 60 ((((nI 980) + ((nI 4) * (((nI 200) * x1) + x2))) + x3).toNatClampNeg)
def p_X11_ofMove (x1 : Int32) (x2 : Int32) (x3 : Int32) (h : Hp) : Prop := (inB (((nI 980) + ((nI 4) * (((nI 200) * x1) + x2))) + x3) 4180 = true) ∧ True
set_option maxRecDepth 20000 in
theorem c_X11_ofMove {d : Nat} {T : HT} (hL : Lay T) {h : Hp} (eT : h.2.2 = T) (x1 : Int32) (x2 : Int32) (x3 : Int32)  (hp : p_X11_ofMove x1 x2 x3 h) {Q : Option Value → Hp → Prop} (k : Q (some (.int (r_X11_ofMove x1 x2 x3 h))) h) : Call (d + 0) MX11_ofMove [.ref 59, .int x1, .int x2, .int x3] h Q := by
  show At (d + 0) MX11_ofMove 0 [.ref 59, .int x1, .int x2, .int x3] [] h Q
  simp only [p_X11_ofMove] at hp
  refine At_aload_n (pc' := 1) iX11_ofMove_0 rfl rfl ?_
  refine At_getR (pc' := 4) iX11_ofMove_1 rfl f_11_7 (kdK eT (kd_59 hL)) (by decide) (rfH eT (rf_59_0 hL)) ?_
  refine At_sipush (v := nI 980) (pc' := 7) iX11_ofMove_4 rfl (by decide) ?_
  refine At_iconst (v := nI 4) (pc' := 8) iX11_ofMove_7 rfl (by decide) ?_
  refine At_sipush (v := nI 200) (pc' := 11) iX11_ofMove_8 rfl (by decide) ?_
  refine At_iload_n (pc' := 12) iX11_ofMove_11 rfl rfl ?_
  refine At_imul (pc' := 13) iX11_ofMove_12 rfl ?_
  refine At_iload_n (pc' := 14) iX11_ofMove_13 rfl rfl ?_
  refine At_iadd (pc' := 15) iX11_ofMove_14 rfl ?_
  refine At_imul (pc' := 16) iX11_ofMove_15 rfl ?_
  refine At_iadd (pc' := 17) iX11_ofMove_16 rfl ?_
  refine At_iload_n (pc' := 18) iX11_ofMove_17 rfl rfl ?_
  refine At_iadd (pc' := 19) iX11_ofMove_18 rfl ?_
  obtain ⟨hp1, hp⟩ := hp
  refine At_iald (pc' := 20) iX11_ofMove_19 rfl (kdH eT (kd_60 hL)) hp1 (show At (d + 0) MX11_ofMove 20 [.ref 59, .int x1, .int x2, .int x3] [.int (gI h 60 ((((nI 980) + ((nI 4) * (((nI 200) * x1) + x2))) + x3).toNatClampNeg))] h Q from ?_)
  simp only [r_X11_ofMove] at k
  exact At_retI iX11_ofMove_20 rfl k
def w_X11_puts (x1 : Int32) (x2 : Int32) (x3 : Int32) (x4 : Int32) (h : Hp) : Hp := if (gI h 59 7) < (nI 200) then (sI (sI (sI (sI (sI h 63 (((nI 4) * (gI h 59 7)).toNatClampNeg) x1) 63 ((((nI 4) * (gI (sI h 63 (((nI 4) * (gI h 59 7)).toNatClampNeg) x1) 59 7)) + (nI 1)).toNatClampNeg) x2) 63 ((((nI 4) * (gI (sI (sI h 63 (((nI 4) * (gI h 59 7)).toNatClampNeg) x1) 63 ((((nI 4) * (gI (sI h 63 (((nI 4) * (gI h 59 7)).toNatClampNeg) x1) 59 7)) + (nI 1)).toNatClampNeg) x2) 59 7)) + (nI 2)).toNatClampNeg) x3) 63 ((((nI 4) * (gI (sI (sI (sI h 63 (((nI 4) * (gI h 59 7)).toNatClampNeg) x1) 63 ((((nI 4) * (gI (sI h 63 (((nI 4) * (gI h 59 7)).toNatClampNeg) x1) 59 7)) + (nI 1)).toNatClampNeg) x2) 63 ((((nI 4) * (gI (sI (sI h 63 (((nI 4) * (gI h 59 7)).toNatClampNeg) x1) 63 ((((nI 4) * (gI (sI h 63 (((nI 4) * (gI h 59 7)).toNatClampNeg) x1) 59 7)) + (nI 1)).toNatClampNeg) x2) 59 7)) + (nI 2)).toNatClampNeg) x3) 59 7)) + (nI 3)).toNatClampNeg) x4) 59 7 ((gI (sI (sI (sI (sI h 63 (((nI 4) * (gI h 59 7)).toNatClampNeg) x1) 63 ((((nI 4) * (gI (sI h 63 (((nI 4) * (gI h 59 7)).toNatClampNeg) x1) 59 7)) + (nI 1)).toNatClampNeg) x2) 63 ((((nI 4) * (gI (sI (sI h 63 (((nI 4) * (gI h 59 7)).toNatClampNeg) x1) 63 ((((nI 4) * (gI (sI h 63 (((nI 4) * (gI h 59 7)).toNatClampNeg) x1) 59 7)) + (nI 1)).toNatClampNeg) x2) 59 7)) + (nI 2)).toNatClampNeg) x3) 63 ((((nI 4) * (gI (sI (sI (sI h 63 (((nI 4) * (gI h 59 7)).toNatClampNeg) x1) 63 ((((nI 4) * (gI (sI h 63 (((nI 4) * (gI h 59 7)).toNatClampNeg) x1) 59 7)) + (nI 1)).toNatClampNeg) x2) 63 ((((nI 4) * (gI (sI (sI h 63 (((nI 4) * (gI h 59 7)).toNatClampNeg) x1) 63 ((((nI 4) * (gI (sI h 63 (((nI 4) * (gI h 59 7)).toNatClampNeg) x1) 59 7)) + (nI 1)).toNatClampNeg) x2) 59 7)) + (nI 2)).toNatClampNeg) x3) 59 7)) + (nI 3)).toNatClampNeg) x4) 59 7) + (nI 1))) else (sI h 59 7 ((gI h 59 7) + (nI 1)))
def p_X11_puts (x1 : Int32) (x2 : Int32) (x3 : Int32) (x4 : Int32) (h : Hp) : Prop := (((gI h 59 7) < (nI 200)) → ((inB ((nI 4) * (gI h 59 7)) 800 = true) ∧ ((inB (((nI 4) * (gI (sI h 63 (((nI 4) * (gI h 59 7)).toNatClampNeg) x1) 59 7)) + (nI 1)) 800 = true) ∧ ((inB (((nI 4) * (gI (sI (sI h 63 (((nI 4) * (gI h 59 7)).toNatClampNeg) x1) 63 ((((nI 4) * (gI (sI h 63 (((nI 4) * (gI h 59 7)).toNatClampNeg) x1) 59 7)) + (nI 1)).toNatClampNeg) x2) 59 7)) + (nI 2)) 800 = true) ∧ ((inB (((nI 4) * (gI (sI (sI (sI h 63 (((nI 4) * (gI h 59 7)).toNatClampNeg) x1) 63 ((((nI 4) * (gI (sI h 63 (((nI 4) * (gI h 59 7)).toNatClampNeg) x1) 59 7)) + (nI 1)).toNatClampNeg) x2) 63 ((((nI 4) * (gI (sI (sI h 63 (((nI 4) * (gI h 59 7)).toNatClampNeg) x1) 63 ((((nI 4) * (gI (sI h 63 (((nI 4) * (gI h 59 7)).toNatClampNeg) x1) 59 7)) + (nI 1)).toNatClampNeg) x2) 59 7)) + (nI 2)).toNatClampNeg) x3) 59 7)) + (nI 3)) 800 = true) ∧ True))))) ∧ (¬ ((gI h 59 7) < (nI 200)) → True)
theorem wT_X11_puts (x1 : Int32) (x2 : Int32) (x3 : Int32) (x4 : Int32) (h : Hp) : (w_X11_puts x1 x2 x3 x4 h).2.2 = h.2.2 := by
  unfold w_X11_puts
  repeat' split
  all_goals first | rfl | (simp only [sI_T, sJ_T, cpI_T, wT_dummy]; done)
set_option maxRecDepth 20000 in
theorem c_X11_puts {d : Nat} {T : HT} (hL : Lay T) {h : Hp} (eT : h.2.2 = T) (x1 : Int32) (x2 : Int32) (x3 : Int32) (x4 : Int32)  (hp : p_X11_puts x1 x2 x3 x4 h) {Q : Option Value → Hp → Prop} (k : Q none (w_X11_puts x1 x2 x3 x4 h)) : Call (d + 0) MX11_puts [.ref 59, .int x1, .int x2, .int x3, .int x4] h Q := by
  show At (d + 0) MX11_puts 0 [.ref 59, .int x1, .int x2, .int x3, .int x4] [] h Q
  simp only [p_X11_puts] at hp
  refine At_aload_n (pc' := 1) iX11_puts_0 rfl rfl ?_
  refine At_getI (pc' := 4) iX11_puts_1 rfl f_11_148 (kdK eT (kd_59 hL)) (by decide) ?_
  refine At_sipush (v := nI 200) (pc' := 7) iX11_puts_4 rfl (by decide) ?_
  refine At_icmp_ge (t := 65) (pc' := 10) iX11_puts_7 (by decide) rfl (fun c7 => ?_) (fun c7 => ?_)
  · have hp := hp.2 c7
    refine At_aload_n (pc' := 66) iX11_puts_65 rfl rfl ?_
    refine At_dup (pc' := 67) iX11_puts_66 rfl rfl ?_
    refine At_getI (pc' := 70) iX11_puts_67 rfl f_11_148 (kdK eT (kd_59 hL)) (by decide) ?_
    refine At_iconst (v := nI 1) (pc' := 71) iX11_puts_70 rfl (by decide) ?_
    refine At_iadd (pc' := 72) iX11_puts_71 rfl ?_
    refine At_putI (pc' := 75) iX11_puts_72 rfl f_11_148 (kdK eT (kd_59 hL)) (Or.inl rfl) (by decide) ?_
    simp only [w_X11_puts, if_neg c7] at k
    exact At_retV iX11_puts_75 rfl k
  · have hp := hp.1 c7
    refine At_aload_n (pc' := 11) iX11_puts_10 rfl rfl ?_
    refine At_getR (pc' := 14) iX11_puts_11 rfl f_11_19 (kdK eT (kd_59 hL)) (by decide) (rfH eT (rf_59_5 hL)) ?_
    refine At_iconst (v := nI 4) (pc' := 15) iX11_puts_14 rfl (by decide) ?_
    refine At_aload_n (pc' := 16) iX11_puts_15 rfl rfl ?_
    refine At_getI (pc' := 19) iX11_puts_16 rfl f_11_148 (kdK eT (kd_59 hL)) (by decide) ?_
    refine At_imul (pc' := 20) iX11_puts_19 rfl ?_
    refine At_iload_n (pc' := 21) iX11_puts_20 rfl rfl ?_
    obtain ⟨hp1, hp⟩ := hp
    refine At_iast (pc' := 22) iX11_puts_21 rfl (kdH eT (kd_63 hL)) hp1 (show At (d + 0) MX11_puts 22 [.ref 59, .int x1, .int x2, .int x3, .int x4] [] (sI h 63 (((nI 4) * (gI h 59 7)).toNatClampNeg) x1) Q from ?_)
    refine At_aload_n (pc' := 23) iX11_puts_22 rfl rfl ?_
    refine At_getR (pc' := 26) iX11_puts_23 rfl f_11_19 (kdK eT (kd_59 hL)) (by decide) (rfH eT (rf_59_5 hL)) ?_
    refine At_iconst (v := nI 4) (pc' := 27) iX11_puts_26 rfl (by decide) ?_
    refine At_aload_n (pc' := 28) iX11_puts_27 rfl rfl ?_
    refine At_getI (pc' := 31) iX11_puts_28 rfl f_11_148 (kdK eT (kd_59 hL)) (by decide) ?_
    refine At_imul (pc' := 32) iX11_puts_31 rfl ?_
    refine At_iconst (v := nI 1) (pc' := 33) iX11_puts_32 rfl (by decide) ?_
    refine At_iadd (pc' := 34) iX11_puts_33 rfl ?_
    refine At_iload_n (pc' := 35) iX11_puts_34 rfl rfl ?_
    obtain ⟨hp2, hp⟩ := hp
    refine At_iast (pc' := 36) iX11_puts_35 rfl (kdH eT (kd_63 hL)) hp2 (show At (d + 0) MX11_puts 36 [.ref 59, .int x1, .int x2, .int x3, .int x4] [] (sI (sI h 63 (((nI 4) * (gI h 59 7)).toNatClampNeg) x1) 63 ((((nI 4) * (gI (sI h 63 (((nI 4) * (gI h 59 7)).toNatClampNeg) x1) 59 7)) + (nI 1)).toNatClampNeg) x2) Q from ?_)
    refine At_aload_n (pc' := 37) iX11_puts_36 rfl rfl ?_
    refine At_getR (pc' := 40) iX11_puts_37 rfl f_11_19 (kdK eT (kd_59 hL)) (by decide) (rfH eT (rf_59_5 hL)) ?_
    refine At_iconst (v := nI 4) (pc' := 41) iX11_puts_40 rfl (by decide) ?_
    refine At_aload_n (pc' := 42) iX11_puts_41 rfl rfl ?_
    refine At_getI (pc' := 45) iX11_puts_42 rfl f_11_148 (kdK eT (kd_59 hL)) (by decide) ?_
    refine At_imul (pc' := 46) iX11_puts_45 rfl ?_
    refine At_iconst (v := nI 2) (pc' := 47) iX11_puts_46 rfl (by decide) ?_
    refine At_iadd (pc' := 48) iX11_puts_47 rfl ?_
    refine At_iload_n (pc' := 49) iX11_puts_48 rfl rfl ?_
    obtain ⟨hp3, hp⟩ := hp
    refine At_iast (pc' := 50) iX11_puts_49 rfl (kdH eT (kd_63 hL)) hp3 (show At (d + 0) MX11_puts 50 [.ref 59, .int x1, .int x2, .int x3, .int x4] [] (sI (sI (sI h 63 (((nI 4) * (gI h 59 7)).toNatClampNeg) x1) 63 ((((nI 4) * (gI (sI h 63 (((nI 4) * (gI h 59 7)).toNatClampNeg) x1) 59 7)) + (nI 1)).toNatClampNeg) x2) 63 ((((nI 4) * (gI (sI (sI h 63 (((nI 4) * (gI h 59 7)).toNatClampNeg) x1) 63 ((((nI 4) * (gI (sI h 63 (((nI 4) * (gI h 59 7)).toNatClampNeg) x1) 59 7)) + (nI 1)).toNatClampNeg) x2) 59 7)) + (nI 2)).toNatClampNeg) x3) Q from ?_)
    refine At_aload_n (pc' := 51) iX11_puts_50 rfl rfl ?_
    refine At_getR (pc' := 54) iX11_puts_51 rfl f_11_19 (kdK eT (kd_59 hL)) (by decide) (rfH eT (rf_59_5 hL)) ?_
    refine At_iconst (v := nI 4) (pc' := 55) iX11_puts_54 rfl (by decide) ?_
    refine At_aload_n (pc' := 56) iX11_puts_55 rfl rfl ?_
    refine At_getI (pc' := 59) iX11_puts_56 rfl f_11_148 (kdK eT (kd_59 hL)) (by decide) ?_
    refine At_imul (pc' := 60) iX11_puts_59 rfl ?_
    refine At_iconst (v := nI 3) (pc' := 61) iX11_puts_60 rfl (by decide) ?_
    refine At_iadd (pc' := 62) iX11_puts_61 rfl ?_
    refine At_iload (pc' := 64) iX11_puts_62 rfl rfl ?_
    obtain ⟨hp4, hp⟩ := hp
    refine At_iast (pc' := 65) iX11_puts_64 rfl (kdH eT (kd_63 hL)) hp4 (show At (d + 0) MX11_puts 65 [.ref 59, .int x1, .int x2, .int x3, .int x4] [] (sI (sI (sI (sI h 63 (((nI 4) * (gI h 59 7)).toNatClampNeg) x1) 63 ((((nI 4) * (gI (sI h 63 (((nI 4) * (gI h 59 7)).toNatClampNeg) x1) 59 7)) + (nI 1)).toNatClampNeg) x2) 63 ((((nI 4) * (gI (sI (sI h 63 (((nI 4) * (gI h 59 7)).toNatClampNeg) x1) 63 ((((nI 4) * (gI (sI h 63 (((nI 4) * (gI h 59 7)).toNatClampNeg) x1) 59 7)) + (nI 1)).toNatClampNeg) x2) 59 7)) + (nI 2)).toNatClampNeg) x3) 63 ((((nI 4) * (gI (sI (sI (sI h 63 (((nI 4) * (gI h 59 7)).toNatClampNeg) x1) 63 ((((nI 4) * (gI (sI h 63 (((nI 4) * (gI h 59 7)).toNatClampNeg) x1) 59 7)) + (nI 1)).toNatClampNeg) x2) 63 ((((nI 4) * (gI (sI (sI h 63 (((nI 4) * (gI h 59 7)).toNatClampNeg) x1) 63 ((((nI 4) * (gI (sI h 63 (((nI 4) * (gI h 59 7)).toNatClampNeg) x1) 59 7)) + (nI 1)).toNatClampNeg) x2) 59 7)) + (nI 2)).toNatClampNeg) x3) 59 7)) + (nI 3)).toNatClampNeg) x4) Q from ?_)
    refine At_aload_n (pc' := 66) iX11_puts_65 rfl rfl ?_
    refine At_dup (pc' := 67) iX11_puts_66 rfl rfl ?_
    refine At_getI (pc' := 70) iX11_puts_67 rfl f_11_148 (kdK eT (kd_59 hL)) (by decide) ?_
    refine At_iconst (v := nI 1) (pc' := 71) iX11_puts_70 rfl (by decide) ?_
    refine At_iadd (pc' := 72) iX11_puts_71 rfl ?_
    refine At_putI (pc' := 75) iX11_puts_72 rfl f_11_148 (kdK eT (kd_59 hL)) (Or.inl rfl) (by decide) ?_
    simp only [w_X11_puts, if_pos c7] at k
    exact At_retV iX11_puts_75 rfl k
def r_X11_see (x1 : Int32) (h : Hp) : Int32 := if x1 < (gI h 59 8) then gI h 64 x1.toNatClampNeg else (-1)
def p_X11_see (x1 : Int32) (h : Hp) : Prop := ((x1 < (gI h 59 8)) → ((inB x1 400 = true) ∧ True)) ∧ (¬ (x1 < (gI h 59 8)) → True)
set_option maxRecDepth 20000 in
theorem c_X11_see {d : Nat} {T : HT} (hL : Lay T) {h : Hp} (eT : h.2.2 = T) (x1 : Int32)  (hp : p_X11_see x1 h) {Q : Option Value → Hp → Prop} (k : Q (some (.int (r_X11_see x1 h))) h) : Call (d + 0) MX11_see [.ref 59, .int x1] h Q := by
  show At (d + 0) MX11_see 0 [.ref 59, .int x1] [] h Q
  simp only [p_X11_see] at hp
  refine At_iload_n (pc' := 1) iX11_see_0 rfl rfl ?_
  refine At_aload_n (pc' := 2) iX11_see_1 rfl rfl ?_
  refine At_getI (pc' := 5) iX11_see_2 rfl f_11_82 (kdK eT (kd_59 hL)) (by decide) ?_
  refine At_icmp_ge (t := 17) (pc' := 8) iX11_see_5 (by decide) rfl (fun c5 => ?_) (fun c5 => ?_)
  · have hp := hp.2 c5
    refine At_iconst (v := (-1)) (pc' := 18) iX11_see_17 rfl (by decide) ?_
    simp only [r_X11_see, if_neg c5] at k
    exact At_retI iX11_see_18 rfl k
  · have hp := hp.1 c5
    refine At_aload_n (pc' := 9) iX11_see_8 rfl rfl ?_
    refine At_getR (pc' := 12) iX11_see_9 rfl f_11_22 (kdK eT (kd_59 hL)) (by decide) (rfH eT (rf_59_6 hL)) ?_
    refine At_iload_n (pc' := 13) iX11_see_12 rfl rfl ?_
    obtain ⟨hp1, hp⟩ := hp
    refine At_iald (pc' := 14) iX11_see_13 rfl (kdH eT (kd_64 hL)) hp1 (show At (d + 0) MX11_see 14 [.ref 59, .int x1] [.int (gI h 64 x1.toNatClampNeg)] h Q from ?_)
    refine At_goto (t := 18) iX11_see_14 (by decide) ?_
    simp only [r_X11_see, if_pos c5] at k
    exact At_retI iX11_see_18 rfl k
def r_X11_state (x1 : Int32) (h : Hp) : Int32 := gI h 60 2
def w_X11_state (x1 : Int32) (h : Hp) : Hp := sI (sI h 60 2 x1) 59 3 (nI 0)
theorem wT_X11_state (x1 : Int32) (h : Hp) : (w_X11_state x1 h).2.2 = h.2.2 := by
  unfold w_X11_state
  repeat' split
  all_goals first | rfl | (simp only [sI_T, sJ_T, cpI_T, wT_dummy]; done)
set_option maxRecDepth 20000 in
theorem c_X11_state {d : Nat} {T : HT} (hL : Lay T) {h : Hp} (eT : h.2.2 = T) (x1 : Int32)  {Q : Option Value → Hp → Prop} (k : Q (some (.int (r_X11_state x1 h))) (w_X11_state x1 h)) : Call (d + 0) MX11_state [.ref 59, .int x1] h Q := by
  show At (d + 0) MX11_state 0 [.ref 59, .int x1, un] [] h Q
  refine At_aload_n (pc' := 1) iX11_state_0 rfl rfl ?_
  refine At_getR (pc' := 4) iX11_state_1 rfl f_11_7 (kdK eT (kd_59 hL)) (by decide) (rfH eT (rf_59_0 hL)) ?_
  refine At_iconst (v := nI 2) (pc' := 5) iX11_state_4 rfl (by decide) ?_
  refine At_iald (pc' := 6) iX11_state_5 rfl (kdH eT (kd_60 hL)) (by decide) (show At (d + 0) MX11_state 6 [.ref 59, .int x1, un] [.int (gI h 60 2)] h Q from ?_)
  refine At_istore_n (L' := [.ref 59, .int x1, .int (gI h 60 2)]) (pc' := 7) iX11_state_6 rfl (Nat.le_of_ble_eq_true rfl) rfl ?_
  refine At_aload_n (pc' := 8) iX11_state_7 rfl rfl ?_
  refine At_getR (pc' := 11) iX11_state_8 rfl f_11_7 (kdK eT (kd_59 hL)) (by decide) (rfH eT (rf_59_0 hL)) ?_
  refine At_iconst (v := nI 2) (pc' := 12) iX11_state_11 rfl (by decide) ?_
  refine At_iload_n (pc' := 13) iX11_state_12 rfl rfl ?_
  refine At_iast (pc' := 14) iX11_state_13 rfl (kdH eT (kd_60 hL)) (by decide) (show At (d + 0) MX11_state 14 [.ref 59, .int x1, .int (gI h 60 2)] [] (sI h 60 2 x1) Q from ?_)
  refine At_aload_n (pc' := 15) iX11_state_14 rfl rfl ?_
  refine At_iconst (v := nI 0) (pc' := 16) iX11_state_15 rfl (by decide) ?_
  refine At_putI (pc' := 19) iX11_state_16 rfl f_11_69 (kdK eT (kd_59 hL)) (Or.inl rfl) (by decide) ?_
  refine At_iload_n (pc' := 20) iX11_state_19 rfl rfl ?_
  simp only [r_X11_state, w_X11_state] at k
  exact At_retI iX11_state_20 rfl k
def w_X11_writes (x1 : Int32) (h : Hp) : Hp := if (gI h 60 3) = (nI 300) then h else (sI (sI (sI h 60 (((nI 320) + ((nI 2) * (gI h 60 3))).toNatClampNeg) x1) 60 ((((nI 320) + ((nI 2) * (gI (sI h 60 (((nI 320) + ((nI 2) * (gI h 60 3))).toNatClampNeg) x1) 60 3))) + (nI 1)).toNatClampNeg) (gI (sI h 60 (((nI 320) + ((nI 2) * (gI h 60 3))).toNatClampNeg) x1) 60 (((nI 10) + x1).toNatClampNeg))) 60 3 ((gI (sI (sI h 60 (((nI 320) + ((nI 2) * (gI h 60 3))).toNatClampNeg) x1) 60 ((((nI 320) + ((nI 2) * (gI (sI h 60 (((nI 320) + ((nI 2) * (gI h 60 3))).toNatClampNeg) x1) 60 3))) + (nI 1)).toNatClampNeg) (gI (sI h 60 (((nI 320) + ((nI 2) * (gI h 60 3))).toNatClampNeg) x1) 60 (((nI 10) + x1).toNatClampNeg))) 60 3) + (nI 1)))
def p_X11_writes (x1 : Int32) (h : Hp) : Prop := (((gI h 60 3) = (nI 300)) → True) ∧ (¬ ((gI h 60 3) = (nI 300)) → ((inB ((nI 320) + ((nI 2) * (gI h 60 3))) 4180 = true) ∧ ((inB ((nI 10) + x1) 4180 = true) ∧ ((inB (((nI 320) + ((nI 2) * (gI (sI h 60 (((nI 320) + ((nI 2) * (gI h 60 3))).toNatClampNeg) x1) 60 3))) + (nI 1)) 4180 = true) ∧ True))))
theorem wT_X11_writes (x1 : Int32) (h : Hp) : (w_X11_writes x1 h).2.2 = h.2.2 := by
  unfold w_X11_writes
  repeat' split
  all_goals first | rfl | (simp only [sI_T, sJ_T, cpI_T, wT_dummy]; done)
set_option maxRecDepth 20000 in
theorem c_X11_writes {d : Nat} {T : HT} (hL : Lay T) {h : Hp} (eT : h.2.2 = T) (x1 : Int32)  (hp : p_X11_writes x1 h) {Q : Option Value → Hp → Prop} (k : Q none (w_X11_writes x1 h)) : Call (d + 0) MX11_writes [.ref 59, .int x1] h Q := by
  show At (d + 0) MX11_writes 0 [.ref 59, .int x1] [] h Q
  simp only [p_X11_writes] at hp
  refine At_aload_n (pc' := 1) iX11_writes_0 rfl rfl ?_
  refine At_getR (pc' := 4) iX11_writes_1 rfl f_11_7 (kdK eT (kd_59 hL)) (by decide) (rfH eT (rf_59_0 hL)) ?_
  refine At_iconst (v := nI 3) (pc' := 5) iX11_writes_4 rfl (by decide) ?_
  refine At_iald (pc' := 6) iX11_writes_5 rfl (kdH eT (kd_60 hL)) (by decide) (show At (d + 0) MX11_writes 6 [.ref 59, .int x1] [.int (gI h 60 3)] h Q from ?_)
  refine At_sipush (v := nI 300) (pc' := 9) iX11_writes_6 rfl (by decide) ?_
  refine At_icmp_ne (t := 13) (pc' := 12) iX11_writes_9 (by decide) rfl (fun c9 => ?_) (fun c9 => ?_)
  · have hp := hp.2 c9
    refine At_aload_n (pc' := 14) iX11_writes_13 rfl rfl ?_
    refine At_getR (pc' := 17) iX11_writes_14 rfl f_11_7 (kdK eT (kd_59 hL)) (by decide) (rfH eT (rf_59_0 hL)) ?_
    refine At_sipush (v := nI 320) (pc' := 20) iX11_writes_17 rfl (by decide) ?_
    refine At_iconst (v := nI 2) (pc' := 21) iX11_writes_20 rfl (by decide) ?_
    refine At_aload_n (pc' := 22) iX11_writes_21 rfl rfl ?_
    refine At_getR (pc' := 25) iX11_writes_22 rfl f_11_7 (kdK eT (kd_59 hL)) (by decide) (rfH eT (rf_59_0 hL)) ?_
    refine At_iconst (v := nI 3) (pc' := 26) iX11_writes_25 rfl (by decide) ?_
    refine At_iald (pc' := 27) iX11_writes_26 rfl (kdH eT (kd_60 hL)) (by decide) (show At (d + 0) MX11_writes 27 [.ref 59, .int x1] [.int (gI h 60 3), .int (nI 2), .int (nI 320), .ref 60] h Q from ?_)
    refine At_imul (pc' := 28) iX11_writes_27 rfl ?_
    refine At_iadd (pc' := 29) iX11_writes_28 rfl ?_
    refine At_iload_n (pc' := 30) iX11_writes_29 rfl rfl ?_
    obtain ⟨hp1, hp⟩ := hp
    refine At_iast (pc' := 31) iX11_writes_30 rfl (kdH eT (kd_60 hL)) hp1 (show At (d + 0) MX11_writes 31 [.ref 59, .int x1] [] (sI h 60 (((nI 320) + ((nI 2) * (gI h 60 3))).toNatClampNeg) x1) Q from ?_)
    refine At_aload_n (pc' := 32) iX11_writes_31 rfl rfl ?_
    refine At_getR (pc' := 35) iX11_writes_32 rfl f_11_7 (kdK eT (kd_59 hL)) (by decide) (rfH eT (rf_59_0 hL)) ?_
    refine At_sipush (v := nI 320) (pc' := 38) iX11_writes_35 rfl (by decide) ?_
    refine At_iconst (v := nI 2) (pc' := 39) iX11_writes_38 rfl (by decide) ?_
    refine At_aload_n (pc' := 40) iX11_writes_39 rfl rfl ?_
    refine At_getR (pc' := 43) iX11_writes_40 rfl f_11_7 (kdK eT (kd_59 hL)) (by decide) (rfH eT (rf_59_0 hL)) ?_
    refine At_iconst (v := nI 3) (pc' := 44) iX11_writes_43 rfl (by decide) ?_
    refine At_iald (pc' := 45) iX11_writes_44 rfl (kdH eT (kd_60 hL)) (by decide) (show At (d + 0) MX11_writes 45 [.ref 59, .int x1] [.int (gI (sI h 60 (((nI 320) + ((nI 2) * (gI h 60 3))).toNatClampNeg) x1) 60 3), .int (nI 2), .int (nI 320), .ref 60] (sI h 60 (((nI 320) + ((nI 2) * (gI h 60 3))).toNatClampNeg) x1) Q from ?_)
    refine At_imul (pc' := 46) iX11_writes_45 rfl ?_
    refine At_iadd (pc' := 47) iX11_writes_46 rfl ?_
    refine At_iconst (v := nI 1) (pc' := 48) iX11_writes_47 rfl (by decide) ?_
    refine At_iadd (pc' := 49) iX11_writes_48 rfl ?_
    refine At_aload_n (pc' := 50) iX11_writes_49 rfl rfl ?_
    refine At_getR (pc' := 53) iX11_writes_50 rfl f_11_7 (kdK eT (kd_59 hL)) (by decide) (rfH eT (rf_59_0 hL)) ?_
    refine At_bipush (v := nI 10) (pc' := 55) iX11_writes_53 rfl (by decide) ?_
    refine At_iload_n (pc' := 56) iX11_writes_55 rfl rfl ?_
    refine At_iadd (pc' := 57) iX11_writes_56 rfl ?_
    obtain ⟨hp2, hp⟩ := hp
    refine At_iald (pc' := 58) iX11_writes_57 rfl (kdH eT (kd_60 hL)) hp2 (show At (d + 0) MX11_writes 58 [.ref 59, .int x1] [.int (gI (sI h 60 (((nI 320) + ((nI 2) * (gI h 60 3))).toNatClampNeg) x1) 60 (((nI 10) + x1).toNatClampNeg)), .int (((nI 320) + ((nI 2) * (gI (sI h 60 (((nI 320) + ((nI 2) * (gI h 60 3))).toNatClampNeg) x1) 60 3))) + (nI 1)), .ref 60] (sI h 60 (((nI 320) + ((nI 2) * (gI h 60 3))).toNatClampNeg) x1) Q from ?_)
    obtain ⟨hp3, hp⟩ := hp
    refine At_iast (pc' := 59) iX11_writes_58 rfl (kdH eT (kd_60 hL)) hp3 (show At (d + 0) MX11_writes 59 [.ref 59, .int x1] [] (sI (sI h 60 (((nI 320) + ((nI 2) * (gI h 60 3))).toNatClampNeg) x1) 60 ((((nI 320) + ((nI 2) * (gI (sI h 60 (((nI 320) + ((nI 2) * (gI h 60 3))).toNatClampNeg) x1) 60 3))) + (nI 1)).toNatClampNeg) (gI (sI h 60 (((nI 320) + ((nI 2) * (gI h 60 3))).toNatClampNeg) x1) 60 (((nI 10) + x1).toNatClampNeg))) Q from ?_)
    refine At_aload_n (pc' := 60) iX11_writes_59 rfl rfl ?_
    refine At_getR (pc' := 63) iX11_writes_60 rfl f_11_7 (kdK eT (kd_59 hL)) (by decide) (rfH eT (rf_59_0 hL)) ?_
    refine At_iconst (v := nI 3) (pc' := 64) iX11_writes_63 rfl (by decide) ?_
    refine At_dup2 (pc' := 65) iX11_writes_64 rfl rfl rfl ?_
    refine At_iald (pc' := 66) iX11_writes_65 rfl (kdH eT (kd_60 hL)) (by decide) (show At (d + 0) MX11_writes 66 [.ref 59, .int x1] [.int (gI (sI (sI h 60 (((nI 320) + ((nI 2) * (gI h 60 3))).toNatClampNeg) x1) 60 ((((nI 320) + ((nI 2) * (gI (sI h 60 (((nI 320) + ((nI 2) * (gI h 60 3))).toNatClampNeg) x1) 60 3))) + (nI 1)).toNatClampNeg) (gI (sI h 60 (((nI 320) + ((nI 2) * (gI h 60 3))).toNatClampNeg) x1) 60 (((nI 10) + x1).toNatClampNeg))) 60 3), .int (nI 3), .ref 60] (sI (sI h 60 (((nI 320) + ((nI 2) * (gI h 60 3))).toNatClampNeg) x1) 60 ((((nI 320) + ((nI 2) * (gI (sI h 60 (((nI 320) + ((nI 2) * (gI h 60 3))).toNatClampNeg) x1) 60 3))) + (nI 1)).toNatClampNeg) (gI (sI h 60 (((nI 320) + ((nI 2) * (gI h 60 3))).toNatClampNeg) x1) 60 (((nI 10) + x1).toNatClampNeg))) Q from ?_)
    refine At_iconst (v := nI 1) (pc' := 67) iX11_writes_66 rfl (by decide) ?_
    refine At_iadd (pc' := 68) iX11_writes_67 rfl ?_
    refine At_iast (pc' := 69) iX11_writes_68 rfl (kdH eT (kd_60 hL)) (by decide) (show At (d + 0) MX11_writes 69 [.ref 59, .int x1] [] (sI (sI (sI h 60 (((nI 320) + ((nI 2) * (gI h 60 3))).toNatClampNeg) x1) 60 ((((nI 320) + ((nI 2) * (gI (sI h 60 (((nI 320) + ((nI 2) * (gI h 60 3))).toNatClampNeg) x1) 60 3))) + (nI 1)).toNatClampNeg) (gI (sI h 60 (((nI 320) + ((nI 2) * (gI h 60 3))).toNatClampNeg) x1) 60 (((nI 10) + x1).toNatClampNeg))) 60 3 ((gI (sI (sI h 60 (((nI 320) + ((nI 2) * (gI h 60 3))).toNatClampNeg) x1) 60 ((((nI 320) + ((nI 2) * (gI (sI h 60 (((nI 320) + ((nI 2) * (gI h 60 3))).toNatClampNeg) x1) 60 3))) + (nI 1)).toNatClampNeg) (gI (sI h 60 (((nI 320) + ((nI 2) * (gI h 60 3))).toNatClampNeg) x1) 60 (((nI 10) + x1).toNatClampNeg))) 60 3) + (nI 1))) Q from ?_)
    simp only [w_X11_writes, if_neg c9] at k
    exact At_retV iX11_writes_69 rfl k
  · have hp := hp.1 c9
    simp only [w_X11_writes, if_pos c9] at k
    exact At_retV iX11_writes_12 rfl k
def r_J6_bitCount_0f7a4 (x0 : Int32) : Int32 := (((((((x0 - ((ushr x0 (nI 1)) &&& (nI 1431655765))) &&& (nI 858993459)) + ((ushr (x0 - ((ushr x0 (nI 1)) &&& (nI 1431655765))) (nI 2)) &&& (nI 858993459))) + (ushr (((x0 - ((ushr x0 (nI 1)) &&& (nI 1431655765))) &&& (nI 858993459)) + ((ushr (x0 - ((ushr x0 (nI 1)) &&& (nI 1431655765))) (nI 2)) &&& (nI 858993459))) (nI 4))) &&& (nI 252645135)) + (ushr (((((x0 - ((ushr x0 (nI 1)) &&& (nI 1431655765))) &&& (nI 858993459)) + ((ushr (x0 - ((ushr x0 (nI 1)) &&& (nI 1431655765))) (nI 2)) &&& (nI 858993459))) + (ushr (((x0 - ((ushr x0 (nI 1)) &&& (nI 1431655765))) &&& (nI 858993459)) + ((ushr (x0 - ((ushr x0 (nI 1)) &&& (nI 1431655765))) (nI 2)) &&& (nI 858993459))) (nI 4))) &&& (nI 252645135)) (nI 8))) + (ushr ((((((x0 - ((ushr x0 (nI 1)) &&& (nI 1431655765))) &&& (nI 858993459)) + ((ushr (x0 - ((ushr x0 (nI 1)) &&& (nI 1431655765))) (nI 2)) &&& (nI 858993459))) + (ushr (((x0 - ((ushr x0 (nI 1)) &&& (nI 1431655765))) &&& (nI 858993459)) + ((ushr (x0 - ((ushr x0 (nI 1)) &&& (nI 1431655765))) (nI 2)) &&& (nI 858993459))) (nI 4))) &&& (nI 252645135)) + (ushr (((((x0 - ((ushr x0 (nI 1)) &&& (nI 1431655765))) &&& (nI 858993459)) + ((ushr (x0 - ((ushr x0 (nI 1)) &&& (nI 1431655765))) (nI 2)) &&& (nI 858993459))) + (ushr (((x0 - ((ushr x0 (nI 1)) &&& (nI 1431655765))) &&& (nI 858993459)) + ((ushr (x0 - ((ushr x0 (nI 1)) &&& (nI 1431655765))) (nI 2)) &&& (nI 858993459))) (nI 4))) &&& (nI 252645135)) (nI 8))) (nI 16))) &&& (nI 63)
set_option maxRecDepth 20000 in
theorem c_J6_bitCount_0f7a4 {d : Nat} {h : Hp} (x0 : Int32)  {Q : Option Value → Hp → Prop} (k : Q (some (.int (r_J6_bitCount_0f7a4 x0))) h) : Call (d + 0) MJ6_bitCount_0f7a4 [.int x0] h Q := by
  show At (d + 0) MJ6_bitCount_0f7a4 0 [.int x0] [] h Q
  refine At_iload_n (pc' := 1) iJ6_bitCount_0f7a4_0 rfl rfl ?_
  refine At_iload_n (pc' := 2) iJ6_bitCount_0f7a4_1 rfl rfl ?_
  refine At_iconst (v := nI 1) (pc' := 3) iJ6_bitCount_0f7a4_2 rfl (by decide) ?_
  refine At_iushr (pc' := 4) iJ6_bitCount_0f7a4_3 rfl ?_
  refine At_ldcW (v := nI 1431655765) (pc' := 7) iJ6_bitCount_0f7a4_4 rfl rfl ?_
  refine At_iand (pc' := 8) iJ6_bitCount_0f7a4_7 rfl ?_
  refine At_isub (pc' := 9) iJ6_bitCount_0f7a4_8 rfl ?_
  refine At_istore_n (L' := [.int (x0 - ((ushr x0 (nI 1)) &&& (nI 1431655765)))]) (pc' := 10) iJ6_bitCount_0f7a4_9 rfl (Nat.le_of_ble_eq_true rfl) rfl ?_
  refine At_iload_n (pc' := 11) iJ6_bitCount_0f7a4_10 rfl rfl ?_
  refine At_ldcW (v := nI 858993459) (pc' := 14) iJ6_bitCount_0f7a4_11 rfl rfl ?_
  refine At_iand (pc' := 15) iJ6_bitCount_0f7a4_14 rfl ?_
  refine At_iload_n (pc' := 16) iJ6_bitCount_0f7a4_15 rfl rfl ?_
  refine At_iconst (v := nI 2) (pc' := 17) iJ6_bitCount_0f7a4_16 rfl (by decide) ?_
  refine At_iushr (pc' := 18) iJ6_bitCount_0f7a4_17 rfl ?_
  refine At_ldcW (v := nI 858993459) (pc' := 21) iJ6_bitCount_0f7a4_18 rfl rfl ?_
  refine At_iand (pc' := 22) iJ6_bitCount_0f7a4_21 rfl ?_
  refine At_iadd (pc' := 23) iJ6_bitCount_0f7a4_22 rfl ?_
  refine At_istore_n (L' := [.int (((x0 - ((ushr x0 (nI 1)) &&& (nI 1431655765))) &&& (nI 858993459)) + ((ushr (x0 - ((ushr x0 (nI 1)) &&& (nI 1431655765))) (nI 2)) &&& (nI 858993459)))]) (pc' := 24) iJ6_bitCount_0f7a4_23 rfl (Nat.le_of_ble_eq_true rfl) rfl ?_
  refine At_iload_n (pc' := 25) iJ6_bitCount_0f7a4_24 rfl rfl ?_
  refine At_iload_n (pc' := 26) iJ6_bitCount_0f7a4_25 rfl rfl ?_
  refine At_iconst (v := nI 4) (pc' := 27) iJ6_bitCount_0f7a4_26 rfl (by decide) ?_
  refine At_iushr (pc' := 28) iJ6_bitCount_0f7a4_27 rfl ?_
  refine At_iadd (pc' := 29) iJ6_bitCount_0f7a4_28 rfl ?_
  refine At_ldcW (v := nI 252645135) (pc' := 32) iJ6_bitCount_0f7a4_29 rfl rfl ?_
  refine At_iand (pc' := 33) iJ6_bitCount_0f7a4_32 rfl ?_
  refine At_istore_n (L' := [.int (((((x0 - ((ushr x0 (nI 1)) &&& (nI 1431655765))) &&& (nI 858993459)) + ((ushr (x0 - ((ushr x0 (nI 1)) &&& (nI 1431655765))) (nI 2)) &&& (nI 858993459))) + (ushr (((x0 - ((ushr x0 (nI 1)) &&& (nI 1431655765))) &&& (nI 858993459)) + ((ushr (x0 - ((ushr x0 (nI 1)) &&& (nI 1431655765))) (nI 2)) &&& (nI 858993459))) (nI 4))) &&& (nI 252645135))]) (pc' := 34) iJ6_bitCount_0f7a4_33 rfl (Nat.le_of_ble_eq_true rfl) rfl ?_
  refine At_iload_n (pc' := 35) iJ6_bitCount_0f7a4_34 rfl rfl ?_
  refine At_iload_n (pc' := 36) iJ6_bitCount_0f7a4_35 rfl rfl ?_
  refine At_bipush (v := nI 8) (pc' := 38) iJ6_bitCount_0f7a4_36 rfl (by decide) ?_
  refine At_iushr (pc' := 39) iJ6_bitCount_0f7a4_38 rfl ?_
  refine At_iadd (pc' := 40) iJ6_bitCount_0f7a4_39 rfl ?_
  refine At_istore_n (L' := [.int ((((((x0 - ((ushr x0 (nI 1)) &&& (nI 1431655765))) &&& (nI 858993459)) + ((ushr (x0 - ((ushr x0 (nI 1)) &&& (nI 1431655765))) (nI 2)) &&& (nI 858993459))) + (ushr (((x0 - ((ushr x0 (nI 1)) &&& (nI 1431655765))) &&& (nI 858993459)) + ((ushr (x0 - ((ushr x0 (nI 1)) &&& (nI 1431655765))) (nI 2)) &&& (nI 858993459))) (nI 4))) &&& (nI 252645135)) + (ushr (((((x0 - ((ushr x0 (nI 1)) &&& (nI 1431655765))) &&& (nI 858993459)) + ((ushr (x0 - ((ushr x0 (nI 1)) &&& (nI 1431655765))) (nI 2)) &&& (nI 858993459))) + (ushr (((x0 - ((ushr x0 (nI 1)) &&& (nI 1431655765))) &&& (nI 858993459)) + ((ushr (x0 - ((ushr x0 (nI 1)) &&& (nI 1431655765))) (nI 2)) &&& (nI 858993459))) (nI 4))) &&& (nI 252645135)) (nI 8)))]) (pc' := 41) iJ6_bitCount_0f7a4_40 rfl (Nat.le_of_ble_eq_true rfl) rfl ?_
  refine At_iload_n (pc' := 42) iJ6_bitCount_0f7a4_41 rfl rfl ?_
  refine At_iload_n (pc' := 43) iJ6_bitCount_0f7a4_42 rfl rfl ?_
  refine At_bipush (v := nI 16) (pc' := 45) iJ6_bitCount_0f7a4_43 rfl (by decide) ?_
  refine At_iushr (pc' := 46) iJ6_bitCount_0f7a4_45 rfl ?_
  refine At_iadd (pc' := 47) iJ6_bitCount_0f7a4_46 rfl ?_
  refine At_istore_n (L' := [.int (((((((x0 - ((ushr x0 (nI 1)) &&& (nI 1431655765))) &&& (nI 858993459)) + ((ushr (x0 - ((ushr x0 (nI 1)) &&& (nI 1431655765))) (nI 2)) &&& (nI 858993459))) + (ushr (((x0 - ((ushr x0 (nI 1)) &&& (nI 1431655765))) &&& (nI 858993459)) + ((ushr (x0 - ((ushr x0 (nI 1)) &&& (nI 1431655765))) (nI 2)) &&& (nI 858993459))) (nI 4))) &&& (nI 252645135)) + (ushr (((((x0 - ((ushr x0 (nI 1)) &&& (nI 1431655765))) &&& (nI 858993459)) + ((ushr (x0 - ((ushr x0 (nI 1)) &&& (nI 1431655765))) (nI 2)) &&& (nI 858993459))) + (ushr (((x0 - ((ushr x0 (nI 1)) &&& (nI 1431655765))) &&& (nI 858993459)) + ((ushr (x0 - ((ushr x0 (nI 1)) &&& (nI 1431655765))) (nI 2)) &&& (nI 858993459))) (nI 4))) &&& (nI 252645135)) (nI 8))) + (ushr ((((((x0 - ((ushr x0 (nI 1)) &&& (nI 1431655765))) &&& (nI 858993459)) + ((ushr (x0 - ((ushr x0 (nI 1)) &&& (nI 1431655765))) (nI 2)) &&& (nI 858993459))) + (ushr (((x0 - ((ushr x0 (nI 1)) &&& (nI 1431655765))) &&& (nI 858993459)) + ((ushr (x0 - ((ushr x0 (nI 1)) &&& (nI 1431655765))) (nI 2)) &&& (nI 858993459))) (nI 4))) &&& (nI 252645135)) + (ushr (((((x0 - ((ushr x0 (nI 1)) &&& (nI 1431655765))) &&& (nI 858993459)) + ((ushr (x0 - ((ushr x0 (nI 1)) &&& (nI 1431655765))) (nI 2)) &&& (nI 858993459))) + (ushr (((x0 - ((ushr x0 (nI 1)) &&& (nI 1431655765))) &&& (nI 858993459)) + ((ushr (x0 - ((ushr x0 (nI 1)) &&& (nI 1431655765))) (nI 2)) &&& (nI 858993459))) (nI 4))) &&& (nI 252645135)) (nI 8))) (nI 16)))]) (pc' := 48) iJ6_bitCount_0f7a4_47 rfl (Nat.le_of_ble_eq_true rfl) rfl ?_
  refine At_iload_n (pc' := 49) iJ6_bitCount_0f7a4_48 rfl rfl ?_
  refine At_bipush (v := nI 63) (pc' := 51) iJ6_bitCount_0f7a4_49 rfl (by decide) ?_
  refine At_iand (pc' := 52) iJ6_bitCount_0f7a4_51 rfl ?_
  simp only [r_J6_bitCount_0f7a4] at k
  exact At_retI iJ6_bitCount_0f7a4_52 rfl k
def r_X4_cross (x0 : Int32) (x1 : Int32) : Bool := if (r_X4_from x0) = (r_X4_from x1) then true else (if (r_X4_from x0) = (r_X4_to x1) then true else (if (r_X4_to x0) = (r_X4_from x1) then true else (if (r_X4_to x0) = (r_X4_to x1) then true else (if (b2i (r_X4_isBetween (r_X4_from x0) (r_X4_from x1) (r_X4_to x1))) = (b2i (r_X4_isBetween (r_X4_to x0) (r_X4_from x1) (r_X4_to x1))) then (if (b2i (r_X4_isBetween (r_X4_from x1) (r_X4_from x0) (r_X4_to x0))) = (b2i (r_X4_isBetween (r_X4_to x1) (r_X4_from x0) (r_X4_to x0))) then false else true) else true))))
set_option maxRecDepth 20000 in
theorem c_X4_cross {d : Nat} {h : Hp} (x0 : Int32) (x1 : Int32)  {Q : Option Value → Hp → Prop} (k : Q (some (.int (b2i (r_X4_cross x0 x1)))) h) : Call (d + 1) MX4_cross [.int x0, .int x1] h Q := by
  show At (d + 1) MX4_cross 0 [.int x0, .int x1, un, un, un, un] [] h Q
  refine At_iload_n (pc' := 1) iX4_cross_0 rfl rfl ?_
  refine At_stat (pc' := 4) iX4_cross_1 rfl m_4_11 rfl rfl (Nat.le_of_ble_eq_true rfl) (Nat.le_of_ble_eq_true rfl) (Nat.le_of_ble_eq_true rfl) ?_
  refine c_X4_from (h := h) x0   (show At (d + 1) MX4_cross 4 [.int x0, .int x1, un, un, un, un] [.int (r_X4_from x0)] h Q from ?_)
  refine At_istore_n (L' := [.int x0, .int x1, .int (r_X4_from x0), un, un, un]) (pc' := 5) iX4_cross_4 rfl (Nat.le_of_ble_eq_true rfl) rfl ?_
  refine At_iload_n (pc' := 6) iX4_cross_5 rfl rfl ?_
  refine At_stat (pc' := 9) iX4_cross_6 rfl m_4_22 rfl rfl (Nat.le_of_ble_eq_true rfl) (Nat.le_of_ble_eq_true rfl) (Nat.le_of_ble_eq_true rfl) ?_
  refine c_X4_to (h := h) x0   (show At (d + 1) MX4_cross 9 [.int x0, .int x1, .int (r_X4_from x0), un, un, un] [.int (r_X4_to x0)] h Q from ?_)
  refine At_istore_n (L' := [.int x0, .int x1, .int (r_X4_from x0), .int (r_X4_to x0), un, un]) (pc' := 10) iX4_cross_9 rfl (Nat.le_of_ble_eq_true rfl) rfl ?_
  refine At_iload_n (pc' := 11) iX4_cross_10 rfl rfl ?_
  refine At_stat (pc' := 14) iX4_cross_11 rfl m_4_11 rfl rfl (Nat.le_of_ble_eq_true rfl) (Nat.le_of_ble_eq_true rfl) (Nat.le_of_ble_eq_true rfl) ?_
  refine c_X4_from (h := h) x1   (show At (d + 1) MX4_cross 14 [.int x0, .int x1, .int (r_X4_from x0), .int (r_X4_to x0), un, un] [.int (r_X4_from x1)] h Q from ?_)
  refine At_istore (L' := [.int x0, .int x1, .int (r_X4_from x0), .int (r_X4_to x0), .int (r_X4_from x1), un]) (pc' := 16) iX4_cross_14 rfl (Nat.le_of_ble_eq_true rfl) rfl ?_
  refine At_iload_n (pc' := 17) iX4_cross_16 rfl rfl ?_
  refine At_stat (pc' := 20) iX4_cross_17 rfl m_4_22 rfl rfl (Nat.le_of_ble_eq_true rfl) (Nat.le_of_ble_eq_true rfl) (Nat.le_of_ble_eq_true rfl) ?_
  refine c_X4_to (h := h) x1   (show At (d + 1) MX4_cross 20 [.int x0, .int x1, .int (r_X4_from x0), .int (r_X4_to x0), .int (r_X4_from x1), un] [.int (r_X4_to x1)] h Q from ?_)
  refine At_istore (L' := [.int x0, .int x1, .int (r_X4_from x0), .int (r_X4_to x0), .int (r_X4_from x1), .int (r_X4_to x1)]) (pc' := 22) iX4_cross_20 rfl (Nat.le_of_ble_eq_true rfl) rfl ?_
  refine At_iload_n (pc' := 23) iX4_cross_22 rfl rfl ?_
  refine At_iload (pc' := 25) iX4_cross_23 rfl rfl ?_
  refine At_icmp_eq (t := 46) (pc' := 28) iX4_cross_25 (by decide) rfl (fun c25 => ?_) (fun c25 => ?_)
  · refine At_iconst (v := nI 1) (pc' := 47) iX4_cross_46 rfl (by decide) ?_
    simp only [r_X4_cross, if_pos c25] at k
    exact At_retT iX4_cross_47 rfl k
  · refine At_iload_n (pc' := 29) iX4_cross_28 rfl rfl ?_
    refine At_iload (pc' := 31) iX4_cross_29 rfl rfl ?_
    refine At_icmp_eq (t := 46) (pc' := 34) iX4_cross_31 (by decide) rfl (fun c31 => ?_) (fun c31 => ?_)
    · refine At_iconst (v := nI 1) (pc' := 47) iX4_cross_46 rfl (by decide) ?_
      simp only [r_X4_cross, if_neg c25, if_pos c31] at k
      exact At_retT iX4_cross_47 rfl k
    · refine At_iload_n (pc' := 35) iX4_cross_34 rfl rfl ?_
      refine At_iload (pc' := 37) iX4_cross_35 rfl rfl ?_
      refine At_icmp_eq (t := 46) (pc' := 40) iX4_cross_37 (by decide) rfl (fun c37 => ?_) (fun c37 => ?_)
      · refine At_iconst (v := nI 1) (pc' := 47) iX4_cross_46 rfl (by decide) ?_
        simp only [r_X4_cross, if_neg c25, if_neg c31, if_pos c37] at k
        exact At_retT iX4_cross_47 rfl k
      · refine At_iload_n (pc' := 41) iX4_cross_40 rfl rfl ?_
        refine At_iload (pc' := 43) iX4_cross_41 rfl rfl ?_
        refine At_icmp_ne (t := 48) (pc' := 46) iX4_cross_43 (by decide) rfl (fun c43 => ?_) (fun c43 => ?_)
        · refine At_iload_n (pc' := 49) iX4_cross_48 rfl rfl ?_
          refine At_iload (pc' := 51) iX4_cross_49 rfl rfl ?_
          refine At_iload (pc' := 53) iX4_cross_51 rfl rfl ?_
          refine At_stat (pc' := 56) iX4_cross_53 rfl m_4_52 rfl rfl (Nat.le_of_ble_eq_true rfl) (Nat.le_of_ble_eq_true rfl) (Nat.le_of_ble_eq_true rfl) ?_
          refine c_X4_isBetween (h := h) (r_X4_from x0) (r_X4_from x1) (r_X4_to x1)   (show At (d + 1) MX4_cross 56 [.int x0, .int x1, .int (r_X4_from x0), .int (r_X4_to x0), .int (r_X4_from x1), .int (r_X4_to x1)] [.int (b2i (r_X4_isBetween (r_X4_from x0) (r_X4_from x1) (r_X4_to x1)))] h Q from ?_)
          refine At_iload_n (pc' := 57) iX4_cross_56 rfl rfl ?_
          refine At_iload (pc' := 59) iX4_cross_57 rfl rfl ?_
          refine At_iload (pc' := 61) iX4_cross_59 rfl rfl ?_
          refine At_stat (pc' := 64) iX4_cross_61 rfl m_4_52 rfl rfl (Nat.le_of_ble_eq_true rfl) (Nat.le_of_ble_eq_true rfl) (Nat.le_of_ble_eq_true rfl) ?_
          refine c_X4_isBetween (h := h) (r_X4_to x0) (r_X4_from x1) (r_X4_to x1)   (show At (d + 1) MX4_cross 64 [.int x0, .int x1, .int (r_X4_from x0), .int (r_X4_to x0), .int (r_X4_from x1), .int (r_X4_to x1)] [.int (b2i (r_X4_isBetween (r_X4_to x0) (r_X4_from x1) (r_X4_to x1))), .int (b2i (r_X4_isBetween (r_X4_from x0) (r_X4_from x1) (r_X4_to x1)))] h Q from ?_)
          refine At_icmp_ne (t := 84) (pc' := 67) iX4_cross_64 (by decide) rfl (fun c64 => ?_) (fun c64 => ?_)
          · refine At_iconst (v := nI 1) (pc' := 85) iX4_cross_84 rfl (by decide) ?_
            refine At_goto (t := 89) iX4_cross_85 (by decide) ?_
            simp only [r_X4_cross, if_neg c25, if_neg c31, if_neg c37, if_neg c43, if_neg c64] at k
            exact At_retT iX4_cross_89 rfl k
          · refine At_iload (pc' := 69) iX4_cross_67 rfl rfl ?_
            refine At_iload_n (pc' := 70) iX4_cross_69 rfl rfl ?_
            refine At_iload_n (pc' := 71) iX4_cross_70 rfl rfl ?_
            refine At_stat (pc' := 74) iX4_cross_71 rfl m_4_52 rfl rfl (Nat.le_of_ble_eq_true rfl) (Nat.le_of_ble_eq_true rfl) (Nat.le_of_ble_eq_true rfl) ?_
            refine c_X4_isBetween (h := h) (r_X4_from x1) (r_X4_from x0) (r_X4_to x0)   (show At (d + 1) MX4_cross 74 [.int x0, .int x1, .int (r_X4_from x0), .int (r_X4_to x0), .int (r_X4_from x1), .int (r_X4_to x1)] [.int (b2i (r_X4_isBetween (r_X4_from x1) (r_X4_from x0) (r_X4_to x0)))] h Q from ?_)
            refine At_iload (pc' := 76) iX4_cross_74 rfl rfl ?_
            refine At_iload_n (pc' := 77) iX4_cross_76 rfl rfl ?_
            refine At_iload_n (pc' := 78) iX4_cross_77 rfl rfl ?_
            refine At_stat (pc' := 81) iX4_cross_78 rfl m_4_52 rfl rfl (Nat.le_of_ble_eq_true rfl) (Nat.le_of_ble_eq_true rfl) (Nat.le_of_ble_eq_true rfl) ?_
            refine c_X4_isBetween (h := h) (r_X4_to x1) (r_X4_from x0) (r_X4_to x0)   (show At (d + 1) MX4_cross 81 [.int x0, .int x1, .int (r_X4_from x0), .int (r_X4_to x0), .int (r_X4_from x1), .int (r_X4_to x1)] [.int (b2i (r_X4_isBetween (r_X4_to x1) (r_X4_from x0) (r_X4_to x0))), .int (b2i (r_X4_isBetween (r_X4_from x1) (r_X4_from x0) (r_X4_to x0)))] h Q from ?_)
            refine At_icmp_eq (t := 88) (pc' := 84) iX4_cross_81 (by decide) rfl (fun c81 => ?_) (fun c81 => ?_)
            · refine At_iconst (v := nI 0) (pc' := 89) iX4_cross_88 rfl (by decide) ?_
              simp only [r_X4_cross, if_neg c25, if_neg c31, if_neg c37, if_neg c43, if_pos c64, if_pos c81] at k
              exact At_retF iX4_cross_89 rfl k
            · refine At_iconst (v := nI 1) (pc' := 85) iX4_cross_84 rfl (by decide) ?_
              refine At_goto (t := 89) iX4_cross_85 (by decide) ?_
              simp only [r_X4_cross, if_neg c25, if_neg c31, if_neg c37, if_neg c43, if_pos c64, if_neg c81] at k
              exact At_retT iX4_cross_89 rfl k
        · refine At_iconst (v := nI 1) (pc' := 47) iX4_cross_46 rfl (by decide) ?_
          simp only [r_X4_cross, if_neg c25, if_neg c31, if_neg c37, if_pos c43] at k
          exact At_retT iX4_cross_47 rfl k
def r_X4_findsColour (x0 : Int32) (x1 : Int64) (x3 : Int64) : Bool := if (r_X4_asked x0) = (-1) then true else (if (r_X6_get x3 (r_X6_get x1 (r_X4_from x0))) = (r_X4_asked x0) then true else false)
set_option maxRecDepth 20000 in
theorem c_X4_findsColour {d : Nat} {h : Hp} (x0 : Int32) (x1 : Int64) (x3 : Int64)  {Q : Option Value → Hp → Prop} (k : Q (some (.int (b2i (r_X4_findsColour x0 x1 x3)))) h) : Call (d + 1) MX4_findsColour [.int x0, .long x1, .long x3] h Q := by
  show At (d + 1) MX4_findsColour 0 [.int x0, .long x1, un, .long x3, un, un] [] h Q
  refine At_iload_n (pc' := 1) iX4_findsColour_0 rfl rfl ?_
  refine At_stat (pc' := 4) iX4_findsColour_1 rfl m_4_25 rfl rfl (Nat.le_of_ble_eq_true rfl) (Nat.le_of_ble_eq_true rfl) (Nat.le_of_ble_eq_true rfl) ?_
  refine c_X4_asked (h := h) x0   (show At (d + 1) MX4_findsColour 4 [.int x0, .long x1, un, .long x3, un, un] [.int (r_X4_asked x0)] h Q from ?_)
  refine At_istore (L' := [.int x0, .long x1, un, .long x3, un, .int (r_X4_asked x0)]) (pc' := 6) iX4_findsColour_4 rfl (Nat.le_of_ble_eq_true rfl) rfl ?_
  refine At_iload (pc' := 8) iX4_findsColour_6 rfl rfl ?_
  refine At_iconst (v := (-1)) (pc' := 9) iX4_findsColour_8 rfl (by decide) ?_
  refine At_icmp_eq (t := 29) (pc' := 12) iX4_findsColour_9 (by decide) rfl (fun c9 => ?_) (fun c9 => ?_)
  · refine At_iconst (v := nI 1) (pc' := 30) iX4_findsColour_29 rfl (by decide) ?_
    refine At_goto (t := 34) iX4_findsColour_30 (by decide) ?_
    simp only [r_X4_findsColour, if_pos c9] at k
    exact At_retT iX4_findsColour_34 rfl k
  · refine At_lload_n (pc' := 13) iX4_findsColour_12 rfl rfl ?_
    refine At_lload_n (pc' := 14) iX4_findsColour_13 rfl rfl ?_
    refine At_iload_n (pc' := 15) iX4_findsColour_14 rfl rfl ?_
    refine At_stat (pc' := 18) iX4_findsColour_15 rfl m_4_11 rfl rfl (Nat.le_of_ble_eq_true rfl) (Nat.le_of_ble_eq_true rfl) (Nat.le_of_ble_eq_true rfl) ?_
    refine c_X4_from (h := h) x0   (show At (d + 1) MX4_findsColour 18 [.int x0, .long x1, un, .long x3, un, .int (r_X4_asked x0)] [.int (r_X4_from x0), .long x1, .long x3] h Q from ?_)
    refine At_stat (pc' := 21) iX4_findsColour_18 rfl m_4_28 rfl rfl (Nat.le_of_ble_eq_true rfl) (Nat.le_of_ble_eq_true rfl) (Nat.le_of_ble_eq_true rfl) ?_
    refine c_X6_get (h := h) x1 (r_X4_from x0)   (show At (d + 1) MX4_findsColour 21 [.int x0, .long x1, un, .long x3, un, .int (r_X4_asked x0)] [.int (r_X6_get x1 (r_X4_from x0)), .long x3] h Q from ?_)
    refine At_stat (pc' := 24) iX4_findsColour_21 rfl m_4_28 rfl rfl (Nat.le_of_ble_eq_true rfl) (Nat.le_of_ble_eq_true rfl) (Nat.le_of_ble_eq_true rfl) ?_
    refine c_X6_get (h := h) x3 (r_X6_get x1 (r_X4_from x0))   (show At (d + 1) MX4_findsColour 24 [.int x0, .long x1, un, .long x3, un, .int (r_X4_asked x0)] [.int (r_X6_get x3 (r_X6_get x1 (r_X4_from x0)))] h Q from ?_)
    refine At_iload (pc' := 26) iX4_findsColour_24 rfl rfl ?_
    refine At_icmp_ne (t := 33) (pc' := 29) iX4_findsColour_26 (by decide) rfl (fun c26 => ?_) (fun c26 => ?_)
    · refine At_iconst (v := nI 0) (pc' := 34) iX4_findsColour_33 rfl (by decide) ?_
      simp only [r_X4_findsColour, if_neg c9, if_neg c26] at k
      exact At_retF iX4_findsColour_34 rfl k
    · refine At_iconst (v := nI 1) (pc' := 30) iX4_findsColour_29 rfl (by decide) ?_
      refine At_goto (t := 34) iX4_findsColour_30 (by decide) ?_
      simp only [r_X4_findsColour, if_neg c9, if_pos c26] at k
      exact At_retT iX4_findsColour_34 rfl k
def r_X4_isTurn (x0 : Int32) : Bool := if (r_X4_kind x0) = (nI 2) then true else false
set_option maxRecDepth 20000 in
theorem c_X4_isTurn {d : Nat} {h : Hp} (x0 : Int32)  {Q : Option Value → Hp → Prop} (k : Q (some (.int (b2i (r_X4_isTurn x0)))) h) : Call (d + 1) MX4_isTurn [.int x0] h Q := by
  show At (d + 1) MX4_isTurn 0 [.int x0] [] h Q
  refine At_iload_n (pc' := 1) iX4_isTurn_0 rfl rfl ?_
  refine At_stat (pc' := 4) iX4_isTurn_1 rfl m_4_15 rfl rfl (Nat.le_of_ble_eq_true rfl) (Nat.le_of_ble_eq_true rfl) (Nat.le_of_ble_eq_true rfl) ?_
  refine c_X4_kind (h := h) x0   (show At (d + 1) MX4_isTurn 4 [.int x0] [.int (r_X4_kind x0)] h Q from ?_)
  refine At_iconst (v := nI 2) (pc' := 5) iX4_isTurn_4 rfl (by decide) ?_
  refine At_icmp_ne (t := 12) (pc' := 8) iX4_isTurn_5 (by decide) rfl (fun c5 => ?_) (fun c5 => ?_)
  · refine At_iconst (v := nI 0) (pc' := 13) iX4_isTurn_12 rfl (by decide) ?_
    simp only [r_X4_isTurn, if_neg c5] at k
    exact At_retF iX4_isTurn_13 rfl k
  · refine At_iconst (v := nI 1) (pc' := 9) iX4_isTurn_8 rfl (by decide) ?_
    refine At_goto (t := 13) iX4_isTurn_9 (by decide) ?_
    simp only [r_X4_isTurn, if_pos c5] at k
    exact At_retT iX4_isTurn_13 rfl k
def r_X4_mirrored (x0 : Int32) (x1 : Int32) : Int32 := if (r_X4_kind x0) = (nI 2) then (if 0 < x1 then r_X4_packed (nI 2) (irem (x1 - (irem (r_X4_from x0) x1)) x1) (nI 0) (-1) else r_X4_packed (nI 2) (nI 0) (nI 0) (-1)) else r_X4_packed (r_X4_kind x0) ((x1 - (nI 1)) - (r_X4_from x0)) ((x1 - (nI 1)) - (r_X4_to x0)) (r_X4_asked x0)
def p_X4_mirrored (x0 : Int32) (x1 : Int32) : Prop := (((r_X4_kind x0) = (nI 2)) → (((0 < x1) → ((¬ x1 = 0) ∧ ((¬ x1 = 0) ∧ True))) ∧ (¬ (0 < x1) → True))) ∧ (¬ ((r_X4_kind x0) = (nI 2)) → True)
set_option maxRecDepth 20000 in
theorem c_X4_mirrored {d : Nat} {h : Hp} (x0 : Int32) (x1 : Int32)  (hp : p_X4_mirrored x0 x1) {Q : Option Value → Hp → Prop} (k : Q (some (.int (r_X4_mirrored x0 x1))) h) : Call (d + 1) MX4_mirrored [.int x0, .int x1] h Q := by
  show At (d + 1) MX4_mirrored 0 [.int x0, .int x1, un, un] [] h Q
  simp only [p_X4_mirrored] at hp
  refine At_iload_n (pc' := 1) iX4_mirrored_0 rfl rfl ?_
  refine At_stat (pc' := 4) iX4_mirrored_1 rfl m_4_11 rfl rfl (Nat.le_of_ble_eq_true rfl) (Nat.le_of_ble_eq_true rfl) (Nat.le_of_ble_eq_true rfl) ?_
  refine c_X4_from (h := h) x0   (show At (d + 1) MX4_mirrored 4 [.int x0, .int x1, un, un] [.int (r_X4_from x0)] h Q from ?_)
  refine At_istore_n (L' := [.int x0, .int x1, .int (r_X4_from x0), un]) (pc' := 5) iX4_mirrored_4 rfl (Nat.le_of_ble_eq_true rfl) rfl ?_
  refine At_iload_n (pc' := 6) iX4_mirrored_5 rfl rfl ?_
  refine At_stat (pc' := 9) iX4_mirrored_6 rfl m_4_15 rfl rfl (Nat.le_of_ble_eq_true rfl) (Nat.le_of_ble_eq_true rfl) (Nat.le_of_ble_eq_true rfl) ?_
  refine c_X4_kind (h := h) x0   (show At (d + 1) MX4_mirrored 9 [.int x0, .int x1, .int (r_X4_from x0), un] [.int (r_X4_kind x0)] h Q from ?_)
  refine At_iconst (v := nI 2) (pc' := 10) iX4_mirrored_9 rfl (by decide) ?_
  refine At_icmp_ne (t := 37) (pc' := 13) iX4_mirrored_10 (by decide) rfl (fun c10 => ?_) (fun c10 => ?_)
  · have hp := hp.2 c10
    refine At_iload_n (pc' := 38) iX4_mirrored_37 rfl rfl ?_
    refine At_stat (pc' := 41) iX4_mirrored_38 rfl m_4_15 rfl rfl (Nat.le_of_ble_eq_true rfl) (Nat.le_of_ble_eq_true rfl) (Nat.le_of_ble_eq_true rfl) ?_
    refine c_X4_kind (h := h) x0   (show At (d + 1) MX4_mirrored 41 [.int x0, .int x1, .int (r_X4_from x0), un] [.int (r_X4_kind x0)] h Q from ?_)
    refine At_iload_n (pc' := 42) iX4_mirrored_41 rfl rfl ?_
    refine At_iconst (v := nI 1) (pc' := 43) iX4_mirrored_42 rfl (by decide) ?_
    refine At_isub (pc' := 44) iX4_mirrored_43 rfl ?_
    refine At_iload_n (pc' := 45) iX4_mirrored_44 rfl rfl ?_
    refine At_isub (pc' := 46) iX4_mirrored_45 rfl ?_
    refine At_iload_n (pc' := 47) iX4_mirrored_46 rfl rfl ?_
    refine At_iconst (v := nI 1) (pc' := 48) iX4_mirrored_47 rfl (by decide) ?_
    refine At_isub (pc' := 49) iX4_mirrored_48 rfl ?_
    refine At_iload_n (pc' := 50) iX4_mirrored_49 rfl rfl ?_
    refine At_stat (pc' := 53) iX4_mirrored_50 rfl m_4_22 rfl rfl (Nat.le_of_ble_eq_true rfl) (Nat.le_of_ble_eq_true rfl) (Nat.le_of_ble_eq_true rfl) ?_
    refine c_X4_to (h := h) x0   (show At (d + 1) MX4_mirrored 53 [.int x0, .int x1, .int (r_X4_from x0), un] [.int (r_X4_to x0), .int (x1 - (nI 1)), .int ((x1 - (nI 1)) - (r_X4_from x0)), .int (r_X4_kind x0)] h Q from ?_)
    refine At_isub (pc' := 54) iX4_mirrored_53 rfl ?_
    refine At_iload_n (pc' := 55) iX4_mirrored_54 rfl rfl ?_
    refine At_stat (pc' := 58) iX4_mirrored_55 rfl m_4_25 rfl rfl (Nat.le_of_ble_eq_true rfl) (Nat.le_of_ble_eq_true rfl) (Nat.le_of_ble_eq_true rfl) ?_
    refine c_X4_asked (h := h) x0   (show At (d + 1) MX4_mirrored 58 [.int x0, .int x1, .int (r_X4_from x0), un] [.int (r_X4_asked x0), .int ((x1 - (nI 1)) - (r_X4_to x0)), .int ((x1 - (nI 1)) - (r_X4_from x0)), .int (r_X4_kind x0)] h Q from ?_)
    refine At_stat (pc' := 61) iX4_mirrored_58 rfl m_4_18 rfl rfl (Nat.le_of_ble_eq_true rfl) (Nat.le_of_ble_eq_true rfl) (Nat.le_of_ble_eq_true rfl) ?_
    refine c_X4_packed (h := h) (r_X4_kind x0) ((x1 - (nI 1)) - (r_X4_from x0)) ((x1 - (nI 1)) - (r_X4_to x0)) (r_X4_asked x0)   (show At (d + 1) MX4_mirrored 61 [.int x0, .int x1, .int (r_X4_from x0), un] [.int (r_X4_packed (r_X4_kind x0) ((x1 - (nI 1)) - (r_X4_from x0)) ((x1 - (nI 1)) - (r_X4_to x0)) (r_X4_asked x0))] h Q from ?_)
    simp only [r_X4_mirrored, if_neg c10] at k
    exact At_retI iX4_mirrored_61 rfl k
  · have hp := hp.1 c10
    refine At_iload_n (pc' := 14) iX4_mirrored_13 rfl rfl ?_
    refine At_if_le (t := 27) (pc' := 17) iX4_mirrored_14 (by decide) rfl (fun c14 => ?_) (fun c14 => ?_)
    · have hp := hp.2 c14
      refine At_iconst (v := nI 0) (pc' := 28) iX4_mirrored_27 rfl (by decide) ?_
      refine At_istore_n (L' := [.int x0, .int x1, .int (r_X4_from x0), .int (nI 0)]) (pc' := 29) iX4_mirrored_28 rfl (Nat.le_of_ble_eq_true rfl) rfl ?_
      refine At_iconst (v := nI 2) (pc' := 30) iX4_mirrored_29 rfl (by decide) ?_
      refine At_iload_n (pc' := 31) iX4_mirrored_30 rfl rfl ?_
      refine At_iconst (v := nI 0) (pc' := 32) iX4_mirrored_31 rfl (by decide) ?_
      refine At_iconst (v := (-1)) (pc' := 33) iX4_mirrored_32 rfl (by decide) ?_
      refine At_stat (pc' := 36) iX4_mirrored_33 rfl m_4_18 rfl rfl (Nat.le_of_ble_eq_true rfl) (Nat.le_of_ble_eq_true rfl) (Nat.le_of_ble_eq_true rfl) ?_
      refine c_X4_packed (h := h) (nI 2) (nI 0) (nI 0) (-1)   (show At (d + 1) MX4_mirrored 36 [.int x0, .int x1, .int (r_X4_from x0), .int (nI 0)] [.int (r_X4_packed (nI 2) (nI 0) (nI 0) (-1))] h Q from ?_)
      simp only [r_X4_mirrored, if_pos c10, if_neg c14] at k
      exact At_retI iX4_mirrored_36 rfl k
    · have hp := hp.1 c14
      refine At_iload_n (pc' := 18) iX4_mirrored_17 rfl rfl ?_
      refine At_iload_n (pc' := 19) iX4_mirrored_18 rfl rfl ?_
      refine At_iload_n (pc' := 20) iX4_mirrored_19 rfl rfl ?_
      obtain ⟨hp1, hp⟩ := hp
      refine At_irem (pc' := 21) iX4_mirrored_20 rfl hp1 ?_
      refine At_isub (pc' := 22) iX4_mirrored_21 rfl ?_
      refine At_iload_n (pc' := 23) iX4_mirrored_22 rfl rfl ?_
      obtain ⟨hp2, hp⟩ := hp
      refine At_irem (pc' := 24) iX4_mirrored_23 rfl hp2 ?_
      refine At_goto (t := 28) iX4_mirrored_24 (by decide) ?_
      refine At_istore_n (L' := [.int x0, .int x1, .int (r_X4_from x0), .int (irem (x1 - (irem (r_X4_from x0) x1)) x1)]) (pc' := 29) iX4_mirrored_28 rfl (Nat.le_of_ble_eq_true rfl) rfl ?_
      refine At_iconst (v := nI 2) (pc' := 30) iX4_mirrored_29 rfl (by decide) ?_
      refine At_iload_n (pc' := 31) iX4_mirrored_30 rfl rfl ?_
      refine At_iconst (v := nI 0) (pc' := 32) iX4_mirrored_31 rfl (by decide) ?_
      refine At_iconst (v := (-1)) (pc' := 33) iX4_mirrored_32 rfl (by decide) ?_
      refine At_stat (pc' := 36) iX4_mirrored_33 rfl m_4_18 rfl rfl (Nat.le_of_ble_eq_true rfl) (Nat.le_of_ble_eq_true rfl) (Nat.le_of_ble_eq_true rfl) ?_
      refine c_X4_packed (h := h) (nI 2) (irem (x1 - (irem (r_X4_from x0) x1)) x1) (nI 0) (-1)   (show At (d + 1) MX4_mirrored 36 [.int x0, .int x1, .int (r_X4_from x0), .int (irem (x1 - (irem (r_X4_from x0) x1)) x1)] [.int (r_X4_packed (nI 2) (irem (x1 - (irem (r_X4_from x0) x1)) x1) (nI 0) (-1))] h Q from ?_)
      simp only [r_X4_mirrored, if_pos c10, if_pos c14] at k
      exact At_retI iX4_mirrored_36 rfl k
def w_X5_append (x1 : Int32) (h : Hp) : Hp := if (r_X7_add 8 x1 h) = true then (w_X7_add 8 x1 h) else (sI (w_X7_add 8 x1 h) 2 8 (nI 1))
def p_X5_append (x1 : Int32) (h : Hp) : Prop := (p_X7_add 8 x1 h) ∧ ((((r_X7_add 8 x1 h) = true) → True) ∧ (¬ ((r_X7_add 8 x1 h) = true) → True))
theorem wT_X5_append (x1 : Int32) (h : Hp) : (w_X5_append x1 h).2.2 = h.2.2 := by
  unfold w_X5_append
  repeat' split
  all_goals first | rfl | (simp only [sI_T, sJ_T, cpI_T, wT_X7_add]; done)
set_option maxRecDepth 20000 in
theorem c_X5_append {d : Nat} {T : HT} (hL : Lay T) {h : Hp} (eT : h.2.2 = T) (x1 : Int32)  (hp : p_X5_append x1 h) {Q : Option Value → Hp → Prop} (k : Q none (w_X5_append x1 h)) : Call (d + 1) MX5_append [.ref 2, .int x1] h Q := by
  show At (d + 1) MX5_append 0 [.ref 2, .int x1] [] h Q
  simp only [p_X5_append] at hp
  refine At_aload_n (pc' := 1) iX5_append_0 rfl rfl ?_
  refine At_getR (pc' := 4) iX5_append_1 rfl f_5_28 (kdK eT (kd_2 hL)) (by decide) (rfH eT (rf_2_3 hL)) ?_
  refine At_iload_n (pc' := 5) iX5_append_4 rfl rfl ?_
  refine At_virt (pc' := 8) iX5_append_5 rfl m_5_126 rfl rfl (kdK eT (kd_8 hL)) (Nat.le_of_ble_eq_true rfl) (Nat.le_of_ble_eq_true rfl) ?_
  obtain ⟨hp1, hp⟩ := hp
  refine c_X7_add (h := h) hL eT 8 x1 (isX7_8 hL) hp1 (show At (d + 1) MX5_append 8 [.ref 2, .int x1] [.int (b2i (r_X7_add 8 x1 h))] (w_X7_add 8 x1 h) Q from ?_)
  refine At_zne (t := 16) (pc' := 11) iX5_append_8 (by decide) rfl (fun c8 => ?_) (fun c8 => ?_)
  · have hp := hp.1 c8
    simp only [w_X5_append, if_pos c8] at k
    exact At_retV iX5_append_16 rfl k
  · have hp := hp.2 c8
    refine At_aload_n (pc' := 12) iX5_append_11 rfl rfl ?_
    refine At_iconst (v := nI 1) (pc' := 13) iX5_append_12 rfl (by decide) ?_
    refine At_putZ (pc' := 16) iX5_append_13 rfl f_5_44 (kdK ((wT_X7_add 8 x1 h).trans eT) (kd_2 hL)) (Or.inl rfl) (by decide) (Or.inr rfl) ?_
    simp only [w_X5_append, if_neg c8] at k
    exact At_retV iX5_append_16 rfl k
def r_X5_readEnd (h : Hp) : Bool := if 0 < (gI h 2 9) then r_X5_fail (nI 1) h else (if (gI h 2 8) = 0 then true else (if (r_X5_fail (nI 4) h) = true then true else false))
def w_X5_readEnd (h : Hp) : Hp := if 0 < (gI h 2 9) then (w_X5_fail (nI 1) h) else (if (gI h 2 8) = 0 then h else (if (r_X5_fail (nI 4) h) = true then (w_X5_fail (nI 4) h) else (w_X5_fail (nI 4) h)))
def p_X5_readEnd (h : Hp) : Prop := ((0 < (gI h 2 9)) → ((p_X5_fail (nI 1) h) ∧ True)) ∧ (¬ (0 < (gI h 2 9)) → ((((gI h 2 8) = 0) → True) ∧ (¬ ((gI h 2 8) = 0) → ((p_X5_fail (nI 4) h) ∧ ((((r_X5_fail (nI 4) h) = true) → True) ∧ (¬ ((r_X5_fail (nI 4) h) = true) → True))))))
theorem wT_X5_readEnd (h : Hp) : (w_X5_readEnd h).2.2 = h.2.2 := by
  unfold w_X5_readEnd
  repeat' split
  all_goals first | rfl | (simp only [sI_T, sJ_T, cpI_T, wT_X5_fail]; done)
set_option maxRecDepth 20000 in
theorem c_X5_readEnd {d : Nat} {T : HT} (hL : Lay T) {h : Hp} (eT : h.2.2 = T)   (hp : p_X5_readEnd h) {Q : Option Value → Hp → Prop} (k : Q (some (.int (b2i (r_X5_readEnd h)))) (w_X5_readEnd h)) : Call (d + 1) MX5_readEnd [.ref 2] h Q := by
  show At (d + 1) MX5_readEnd 0 [.ref 2] [] h Q
  simp only [p_X5_readEnd] at hp
  refine At_aload_n (pc' := 1) iX5_readEnd_0 rfl rfl ?_
  refine At_getI (pc' := 4) iX5_readEnd_1 rfl f_5_48 (kdK eT (kd_2 hL)) (by decide) ?_
  refine At_if_le (t := 13) (pc' := 7) iX5_readEnd_4 (by decide) rfl (fun c4 => ?_) (fun c4 => ?_)
  · have hp := hp.2 c4
    refine At_aload_n (pc' := 14) iX5_readEnd_13 rfl rfl ?_
    refine At_getI (pc' := 17) iX5_readEnd_14 rfl f_5_44 (kdK eT (kd_2 hL)) (by decide) ?_
    refine At_if_eq (t := 28) (pc' := 20) iX5_readEnd_17 (by decide) rfl (fun c17 => ?_) (fun c17 => ?_)
    · have hp := hp.1 c17
      refine At_iconst (v := nI 1) (pc' := 29) iX5_readEnd_28 rfl (by decide) ?_
      refine At_goto (t := 33) iX5_readEnd_29 (by decide) ?_
      simp only [r_X5_readEnd, w_X5_readEnd, if_neg c4, if_pos c17] at k
      exact At_retT iX5_readEnd_33 rfl k
    · have hp := hp.2 c17
      refine At_aload_n (pc' := 21) iX5_readEnd_20 rfl rfl ?_
      refine At_iconst (v := nI 4) (pc' := 22) iX5_readEnd_21 rfl (by decide) ?_
      refine At_virt (pc' := 25) iX5_readEnd_22 rfl m_5_89 rfl rfl (kdK eT (kd_2 hL)) (Nat.le_of_ble_eq_true rfl) (Nat.le_of_ble_eq_true rfl) ?_
      obtain ⟨hp1, hp⟩ := hp
      refine c_X5_fail (h := h) hL eT (nI 4)  hp1 (show At (d + 1) MX5_readEnd 25 [.ref 2] [.int (b2i (r_X5_fail (nI 4) h))] (w_X5_fail (nI 4) h) Q from ?_)
      refine At_zeq (t := 32) (pc' := 28) iX5_readEnd_25 (by decide) rfl (fun c25 => ?_) (fun c25 => ?_)
      · have hp := hp.2 c25
        refine At_iconst (v := nI 0) (pc' := 33) iX5_readEnd_32 rfl (by decide) ?_
        simp only [r_X5_readEnd, w_X5_readEnd, if_neg c4, if_neg c17, if_neg c25] at k
        exact At_retF iX5_readEnd_33 rfl k
      · have hp := hp.1 c25
        refine At_iconst (v := nI 1) (pc' := 29) iX5_readEnd_28 rfl (by decide) ?_
        refine At_goto (t := 33) iX5_readEnd_29 (by decide) ?_
        simp only [r_X5_readEnd, w_X5_readEnd, if_neg c4, if_neg c17, if_pos c25] at k
        exact At_retT iX5_readEnd_33 rfl k
  · have hp := hp.1 c4
    refine At_aload_n (pc' := 8) iX5_readEnd_7 rfl rfl ?_
    refine At_iconst (v := nI 1) (pc' := 9) iX5_readEnd_8 rfl (by decide) ?_
    refine At_virt (pc' := 12) iX5_readEnd_9 rfl m_5_89 rfl rfl (kdK eT (kd_2 hL)) (Nat.le_of_ble_eq_true rfl) (Nat.le_of_ble_eq_true rfl) ?_
    obtain ⟨hp2, hp⟩ := hp
    refine c_X5_fail (h := h) hL eT (nI 1)  hp2 (show At (d + 1) MX5_readEnd 12 [.ref 2] [.int (b2i (r_X5_fail (nI 1) h))] (w_X5_fail (nI 1) h) Q from ?_)
    simp only [r_X5_readEnd, w_X5_readEnd, if_pos c4] at k
    exact At_retZ iX5_readEnd_12 rfl (b2i_01 _) k
