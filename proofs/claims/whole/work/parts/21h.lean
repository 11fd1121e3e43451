-- blocks between loop heads; written out by gen20.py
-- X11_singsTruly (calls X11_sitsNow)
def L_X11_singsTruly_8 (d : Nat) (x1 : Int32) (x2 : Int32) (x3 : Int32) (h : Hp) (Q : Option Value → Hp → Prop) : Prop := ∀ v4 v5 : Value, At (d + 3) MX11_singsTruly 8 [.ref 59, .int x1, .int x2, .int x3, v4, v5] [] h Q
def L_X11_singsTruly_135 (d : Nat) (x2 : Int32) (x3 : Int32) (h : Hp) (Q : Option Value → Hp → Prop) : Prop := ∀ v1 v4 v5 : Value, At (d + 3) MX11_singsTruly 135 [.ref 59, v1, .int x2, .int x3, v4, v5] [] h Q
set_option maxRecDepth 20000 in
theorem b_X11_singsTruly {d : Nat} {T : HT} (hL : Lay T) {h : Hp} (eT : h.2.2 = T) (x1 : Int32)  {Q : Option Value → Hp → Prop} (hv : CallV (d + 2) MX11_sitsNow [.ref 59] h (fun h3 => h3.2.2 = T ∧ (L_X11_singsTruly_8 d x1 (nI 0) (nI 0) h3 Q))) : Call (d + 3) MX11_singsTruly [.ref 59, .int x1] h Q := by
  show At (d + 3) MX11_singsTruly 0 [.ref 59, .int x1, un, un, un, un] [] h Q
  refine At_iconst (v := nI 0) (pc' := 1) iX11_singsTruly_0 rfl (by decide) ?_
  refine At_istore_n (L' := [.ref 59, .int x1, .int (nI 0), un, un, un]) (pc' := 2) iX11_singsTruly_1 rfl (Nat.le_of_ble_eq_true rfl) rfl ?_
  refine At_aload_n (pc' := 3) iX11_singsTruly_2 rfl rfl ?_
  refine At_virt (pc' := 6) iX11_singsTruly_3 rfl m_11_202 rfl rfl (kdK eT (kd_59 hL)) (Nat.le_of_ble_eq_true rfl) (Nat.le_of_ble_eq_true rfl) ?_
  refine At.mono (show CallV (d + 2) MX11_sitsNow [.ref 59] h _ from hv) ?_
  rintro _ h3 ⟨rfl, eT3, hv⟩
  show At (d + 3) MX11_singsTruly 6 [.ref 59, .int x1, .int (nI 0), un, un, un] [] h3 Q
  refine At_iconst (v := nI 0) (pc' := 7) iX11_singsTruly_6 rfl (by decide) ?_
  refine At_istore_n (L' := [.ref 59, .int x1, .int (nI 0), .int (nI 0), un, un]) (pc' := 8) iX11_singsTruly_7 rfl (Nat.le_of_ble_eq_true rfl) rfl ?_
  exact hv _ _
set_option maxRecDepth 20000 in
theorem b_X11_singsTruly_8 {d : Nat} {T : HT} (hL : Lay T) {h : Hp} (eT : h.2.2 = T) (x1 : Int32) (x2 : Int32) (x3 : Int32)  {Q : Option Value → Hp → Prop} (hv : (inB ((nI 975) + x1) 4180 = true) ∧ (((x3 < (gI h 60 (((nI 975) + x1).toNatClampNeg))) → ((p_X11_ofMove x1 x3 (nI 0) h) ∧ ((((r_X11_ofMove x1 x3 (nI 0) h) = (nI 2)) → ((((nI 1) = 0) → (((0 < (gI h 60 1)) → ((p_X11_draw (nI 1000) h) ∧ ((((r_X11_draw (nI 1000) h) < (gI (w_X11_draw (nI 1000) h) 60 1)) → (L_X11_singsTruly_8 d x1 x2 (x3 + nI 1) (w_X11_draw (nI 1000) h) Q)) ∧ (¬ ((r_X11_draw (nI 1000) h) < (gI (w_X11_draw (nI 1000) h) 60 1)) → (CallI (d + 2) MX11_moves [.ref 59, .int x1, .int x3, .int (nI 0), .int (nI 1), .int (-1), .int (nI 1)] (w_X11_draw (nI 1000) h) (fun r80 h80 => h80.2.2 = T ∧ (((r80 = (-1)) → (L_X11_singsTruly_8 d x1 x2 (x3 + nI 1) h80 Q)) ∧ (¬ (r80 = (-1)) → ((inB ((nI 26) + r80) 4180 = true) ∧ ((inB ((nI 26) + r80) 4180 = true) ∧ ((p_X11_writes r80 (sI (sI h80 60 4 ((gI h80 60 4) + (nI 1))) 60 (((nI 26) + r80).toNatClampNeg) ((gI (sI h80 60 4 ((gI h80 60 4) + (nI 1))) 60 (((nI 26) + r80).toNatClampNeg)) + (nI 1)))) ∧ (L_X11_singsTruly_8 d x1 (x2 + nI 1) (x3 + nI 1) (w_X11_writes r80 (sI (sI h80 60 4 ((gI h80 60 4) + (nI 1))) 60 (((nI 26) + r80).toNatClampNeg) ((gI (sI h80 60 4 ((gI h80 60 4) + (nI 1))) 60 (((nI 26) + r80).toNatClampNeg)) + (nI 1)))) Q)))))))))))) ∧ (¬ (0 < (gI h 60 1)) → (CallI (d + 2) MX11_moves [.ref 59, .int x1, .int x3, .int (nI 0), .int (nI 1), .int (-1), .int (nI 1)] h (fun r80 h80 => h80.2.2 = T ∧ (((r80 = (-1)) → (L_X11_singsTruly_8 d x1 x2 (x3 + nI 1) h80 Q)) ∧ (¬ (r80 = (-1)) → ((inB ((nI 26) + r80) 4180 = true) ∧ ((inB ((nI 26) + r80) 4180 = true) ∧ ((p_X11_writes r80 (sI (sI h80 60 4 ((gI h80 60 4) + (nI 1))) 60 (((nI 26) + r80).toNatClampNeg) ((gI (sI h80 60 4 ((gI h80 60 4) + (nI 1))) 60 (((nI 26) + r80).toNatClampNeg)) + (nI 1)))) ∧ (L_X11_singsTruly_8 d x1 (x2 + nI 1) (x3 + nI 1) (w_X11_writes r80 (sI (sI h80 60 4 ((gI h80 60 4) + (nI 1))) 60 (((nI 26) + r80).toNatClampNeg) ((gI (sI h80 60 4 ((gI h80 60 4) + (nI 1))) 60 (((nI 26) + r80).toNatClampNeg)) + (nI 1)))) Q))))))))))) ∧ (¬ ((nI 1) = 0) → (CallI (d + 2) MX11_moves [.ref 59, .int x1, .int x3, .int (nI 0), .int (nI 1), .int (-1), .int (nI 1)] h (fun r80 h80 => h80.2.2 = T ∧ (((r80 = (-1)) → (L_X11_singsTruly_8 d x1 x2 (x3 + nI 1) h80 Q)) ∧ (¬ (r80 = (-1)) → ((inB ((nI 26) + r80) 4180 = true) ∧ ((inB ((nI 26) + r80) 4180 = true) ∧ ((p_X11_writes r80 (sI (sI h80 60 4 ((gI h80 60 4) + (nI 1))) 60 (((nI 26) + r80).toNatClampNeg) ((gI (sI h80 60 4 ((gI h80 60 4) + (nI 1))) 60 (((nI 26) + r80).toNatClampNeg)) + (nI 1)))) ∧ (L_X11_singsTruly_8 d x1 (x2 + nI 1) (x3 + nI 1) (w_X11_writes r80 (sI (sI h80 60 4 ((gI h80 60 4) + (nI 1))) 60 (((nI 26) + r80).toNatClampNeg) ((gI (sI h80 60 4 ((gI h80 60 4) + (nI 1))) 60 (((nI 26) + r80).toNatClampNeg)) + (nI 1)))) Q))))))))))) ∧ (¬ ((r_X11_ofMove x1 x3 (nI 0) h) = (nI 2)) → ((((nI 0) = 0) → (((0 < (gI h 60 1)) → ((p_X11_draw (nI 1000) h) ∧ ((((r_X11_draw (nI 1000) h) < (gI (w_X11_draw (nI 1000) h) 60 1)) → (L_X11_singsTruly_8 d x1 x2 (x3 + nI 1) (w_X11_draw (nI 1000) h) Q)) ∧ (¬ ((r_X11_draw (nI 1000) h) < (gI (w_X11_draw (nI 1000) h) 60 1)) → (CallI (d + 2) MX11_moves [.ref 59, .int x1, .int x3, .int (nI 0), .int (nI 1), .int (-1), .int (nI 1)] (w_X11_draw (nI 1000) h) (fun r80 h80 => h80.2.2 = T ∧ (((r80 = (-1)) → (L_X11_singsTruly_8 d x1 x2 (x3 + nI 1) h80 Q)) ∧ (¬ (r80 = (-1)) → ((inB ((nI 26) + r80) 4180 = true) ∧ ((inB ((nI 26) + r80) 4180 = true) ∧ ((p_X11_writes r80 (sI (sI h80 60 4 ((gI h80 60 4) + (nI 1))) 60 (((nI 26) + r80).toNatClampNeg) ((gI (sI h80 60 4 ((gI h80 60 4) + (nI 1))) 60 (((nI 26) + r80).toNatClampNeg)) + (nI 1)))) ∧ (L_X11_singsTruly_8 d x1 (x2 + nI 1) (x3 + nI 1) (w_X11_writes r80 (sI (sI h80 60 4 ((gI h80 60 4) + (nI 1))) 60 (((nI 26) + r80).toNatClampNeg) ((gI (sI h80 60 4 ((gI h80 60 4) + (nI 1))) 60 (((nI 26) + r80).toNatClampNeg)) + (nI 1)))) Q)))))))))))) ∧ (¬ (0 < (gI h 60 1)) → (CallI (d + 2) MX11_moves [.ref 59, .int x1, .int x3, .int (nI 0), .int (nI 1), .int (-1), .int (nI 1)] h (fun r80 h80 => h80.2.2 = T ∧ (((r80 = (-1)) → (L_X11_singsTruly_8 d x1 x2 (x3 + nI 1) h80 Q)) ∧ (¬ (r80 = (-1)) → ((inB ((nI 26) + r80) 4180 = true) ∧ ((inB ((nI 26) + r80) 4180 = true) ∧ ((p_X11_writes r80 (sI (sI h80 60 4 ((gI h80 60 4) + (nI 1))) 60 (((nI 26) + r80).toNatClampNeg) ((gI (sI h80 60 4 ((gI h80 60 4) + (nI 1))) 60 (((nI 26) + r80).toNatClampNeg)) + (nI 1)))) ∧ (L_X11_singsTruly_8 d x1 (x2 + nI 1) (x3 + nI 1) (w_X11_writes r80 (sI (sI h80 60 4 ((gI h80 60 4) + (nI 1))) 60 (((nI 26) + r80).toNatClampNeg) ((gI (sI h80 60 4 ((gI h80 60 4) + (nI 1))) 60 (((nI 26) + r80).toNatClampNeg)) + (nI 1)))) Q))))))))))) ∧ (¬ ((nI 0) = 0) → (CallI (d + 2) MX11_moves [.ref 59, .int x1, .int x3, .int (nI 0), .int (nI 1), .int (-1), .int (nI 1)] h (fun r80 h80 => h80.2.2 = T ∧ (((r80 = (-1)) → (L_X11_singsTruly_8 d x1 x2 (x3 + nI 1) h80 Q)) ∧ (¬ (r80 = (-1)) → ((inB ((nI 26) + r80) 4180 = true) ∧ ((inB ((nI 26) + r80) 4180 = true) ∧ ((p_X11_writes r80 (sI (sI h80 60 4 ((gI h80 60 4) + (nI 1))) 60 (((nI 26) + r80).toNatClampNeg) ((gI (sI h80 60 4 ((gI h80 60 4) + (nI 1))) 60 (((nI 26) + r80).toNatClampNeg)) + (nI 1)))) ∧ (L_X11_singsTruly_8 d x1 (x2 + nI 1) (x3 + nI 1) (w_X11_writes r80 (sI (sI h80 60 4 ((gI h80 60 4) + (nI 1))) 60 (((nI 26) + r80).toNatClampNeg) ((gI (sI h80 60 4 ((gI h80 60 4) + (nI 1))) 60 (((nI 26) + r80).toNatClampNeg)) + (nI 1)))) Q)))))))))))))) ∧ (¬ (x3 < (gI h 60 (((nI 975) + x1).toNatClampNeg))) → (L_X11_singsTruly_135 d x2 (nI 0) h Q)))) : L_X11_singsTruly_8 d x1 x2 x3 h Q := by
  intro v4 v5
  refine At_iload_n (pc' := 9) iX11_singsTruly_8 rfl rfl ?_
  refine At_aload_n (pc' := 10) iX11_singsTruly_9 rfl rfl ?_
  refine At_getR (pc' := 13) iX11_singsTruly_10 rfl f_11_7 (kdK eT (kd_59 hL)) (by decide) (rfH eT (rf_59_0 hL)) ?_
  refine At_sipush (v := nI 975) (pc' := 16) iX11_singsTruly_13 rfl (by decide) ?_
  refine At_iload_n (pc' := 17) iX11_singsTruly_16 rfl rfl ?_
  refine At_iadd (pc' := 18) iX11_singsTruly_17 rfl ?_
  obtain ⟨hn1, hv⟩ := hv
  refine At_iald (pc' := 19) iX11_singsTruly_18 rfl (kdH eT (kd_60 hL)) hn1 (show At (d + 3) MX11_singsTruly 19 [.ref 59, .int x1, .int x2, .int x3, v4, v5] [.int (gI h 60 (((nI 975) + x1).toNatClampNeg)), .int x3] h Q from ?_)
  refine At_icmp_ge (t := 133) (pc' := 22) iX11_singsTruly_19 (by decide) rfl (fun c19 => ?_) (fun c19 => ?_)
  · have hv := hv.2 c19
    refine At_iconst (v := nI 0) (pc' := 134) iX11_singsTruly_133 rfl (by decide) ?_
    refine At_istore_n (L' := [.ref 59, .int x1, .int x2, .int (nI 0), v4, v5]) (pc' := 135) iX11_singsTruly_134 rfl (Nat.le_of_ble_eq_true rfl) rfl ?_
    exact hv _ _ _
  · have hv := hv.1 c19
    refine At_aload_n (pc' := 23) iX11_singsTruly_22 rfl rfl ?_
    refine At_iload_n (pc' := 24) iX11_singsTruly_23 rfl rfl ?_
    refine At_iload_n (pc' := 25) iX11_singsTruly_24 rfl rfl ?_
    refine At_iconst (v := nI 0) (pc' := 26) iX11_singsTruly_25 rfl (by decide) ?_
    refine At_virt (pc' := 29) iX11_singsTruly_26 rfl m_11_185 rfl rfl (kdK eT (kd_59 hL)) (Nat.le_of_ble_eq_true rfl) (Nat.le_of_ble_eq_true rfl) ?_
    obtain ⟨hn2, hv⟩ := hv
    refine c_X11_ofMove (h := h) hL eT x1 x3 (nI 0)  hn2 (show At (d + 3) MX11_singsTruly 29 [.ref 59, .int x1, .int x2, .int x3, v4, v5] [.int (r_X11_ofMove x1 x3 (nI 0) h)] h Q from ?_)
    refine At_iconst (v := nI 2) (pc' := 30) iX11_singsTruly_29 rfl (by decide) ?_
    refine At_icmp_ne (t := 37) (pc' := 33) iX11_singsTruly_30 (by decide) rfl (fun c30 => ?_) (fun c30 => ?_)
    · have hv := hv.2 c30
      refine At_iconst (v := nI 0) (pc' := 38) iX11_singsTruly_37 rfl (by decide) ?_
      refine At_istore (L' := [.ref 59, .int x1, .int x2, .int x3, .int (nI 0), v5]) (pc' := 40) iX11_singsTruly_38 rfl (Nat.le_of_ble_eq_true rfl) rfl ?_
      refine At_iload (pc' := 42) iX11_singsTruly_40 rfl rfl ?_
      refine At_if_ne (t := 73) (pc' := 45) iX11_singsTruly_42 (by decide) rfl (fun c42 => ?_) (fun c42 => ?_)
      · have hv := hv.2 c42
        refine At_aload_n (pc' := 74) iX11_singsTruly_73 rfl rfl ?_
        refine At_iload_n (pc' := 75) iX11_singsTruly_74 rfl rfl ?_
        refine At_iload_n (pc' := 76) iX11_singsTruly_75 rfl rfl ?_
        refine At_iconst (v := nI 0) (pc' := 77) iX11_singsTruly_76 rfl (by decide) ?_
        refine At_iconst (v := nI 1) (pc' := 78) iX11_singsTruly_77 rfl (by decide) ?_
        refine At_iconst (v := (-1)) (pc' := 79) iX11_singsTruly_78 rfl (by decide) ?_
        refine At_iconst (v := nI 1) (pc' := 80) iX11_singsTruly_79 rfl (by decide) ?_
        refine At_virt (pc' := 83) iX11_singsTruly_80 rfl m_11_198 rfl rfl (kdK eT (kd_59 hL)) (Nat.le_of_ble_eq_true rfl) (Nat.le_of_ble_eq_true rfl) ?_
        refine At.mono (show CallI (d + 2) MX11_moves [.ref 59, .int x1, .int x3, .int (nI 0), .int (nI 1), .int (-1), .int (nI 1)] h _ from hv) ?_
        rintro _ h80 ⟨r80, rfl, eT80, hv⟩
        show At (d + 3) MX11_singsTruly 83 [.ref 59, .int x1, .int x2, .int x3, .int (nI 0), v5] [.int r80] h80 Q
        refine At_istore (L' := [.ref 59, .int x1, .int x2, .int x3, .int (nI 0), .int r80]) (pc' := 85) iX11_singsTruly_83 rfl (Nat.le_of_ble_eq_true rfl) rfl ?_
        refine At_iload (pc' := 87) iX11_singsTruly_85 rfl rfl ?_
        refine At_iconst (v := (-1)) (pc' := 88) iX11_singsTruly_87 rfl (by decide) ?_
        refine At_icmp_ne (t := 94) (pc' := 91) iX11_singsTruly_88 (by decide) rfl (fun c88 => ?_) (fun c88 => ?_)
        · have hv := hv.2 c88
          refine At_aload_n (pc' := 95) iX11_singsTruly_94 rfl rfl ?_
          refine At_getR (pc' := 98) iX11_singsTruly_95 rfl f_11_7 (kdK eT80 (kd_59 hL)) (by decide) (rfH eT80 (rf_59_0 hL)) ?_
          refine At_iconst (v := nI 4) (pc' := 99) iX11_singsTruly_98 rfl (by decide) ?_
          refine At_dup2 (pc' := 100) iX11_singsTruly_99 rfl rfl rfl ?_
          refine At_iald (pc' := 101) iX11_singsTruly_100 rfl (kdH eT80 (kd_60 hL)) (by decide) (show At (d + 3) MX11_singsTruly 101 [.ref 59, .int x1, .int x2, .int x3, .int (nI 0), .int r80] [.int (gI h80 60 4), .int (nI 4), .ref 60] h80 Q from ?_)
          refine At_iconst (v := nI 1) (pc' := 102) iX11_singsTruly_101 rfl (by decide) ?_
          refine At_iadd (pc' := 103) iX11_singsTruly_102 rfl ?_
          refine At_iast (pc' := 104) iX11_singsTruly_103 rfl (kdH eT80 (kd_60 hL)) (by decide) (show At (d + 3) MX11_singsTruly 104 [.ref 59, .int x1, .int x2, .int x3, .int (nI 0), .int r80] [] (sI h80 60 4 ((gI h80 60 4) + (nI 1))) Q from ?_)
          refine At_aload_n (pc' := 105) iX11_singsTruly_104 rfl rfl ?_
          refine At_getR (pc' := 108) iX11_singsTruly_105 rfl f_11_7 (kdK eT80 (kd_59 hL)) (by decide) (rfH eT80 (rf_59_0 hL)) ?_
          refine At_bipush (v := nI 26) (pc' := 110) iX11_singsTruly_108 rfl (by decide) ?_
          refine At_iload (pc' := 112) iX11_singsTruly_110 rfl rfl ?_
          refine At_iadd (pc' := 113) iX11_singsTruly_112 rfl ?_
          refine At_dup2 (pc' := 114) iX11_singsTruly_113 rfl rfl rfl ?_
          obtain ⟨hn3, hv⟩ := hv
          refine At_iald (pc' := 115) iX11_singsTruly_114 rfl (kdH eT80 (kd_60 hL)) hn3 (show At (d + 3) MX11_singsTruly 115 [.ref 59, .int x1, .int x2, .int x3, .int (nI 0), .int r80] [.int (gI (sI h80 60 4 ((gI h80 60 4) + (nI 1))) 60 (((nI 26) + r80).toNatClampNeg)), .int ((nI 26) + r80), .ref 60] (sI h80 60 4 ((gI h80 60 4) + (nI 1))) Q from ?_)
          refine At_iconst (v := nI 1) (pc' := 116) iX11_singsTruly_115 rfl (by decide) ?_
          refine At_iadd (pc' := 117) iX11_singsTruly_116 rfl ?_
          obtain ⟨hn4, hv⟩ := hv
          refine At_iast (pc' := 118) iX11_singsTruly_117 rfl (kdH eT80 (kd_60 hL)) hn4 (show At (d + 3) MX11_singsTruly 118 [.ref 59, .int x1, .int x2, .int x3, .int (nI 0), .int r80] [] (sI (sI h80 60 4 ((gI h80 60 4) + (nI 1))) 60 (((nI 26) + r80).toNatClampNeg) ((gI (sI h80 60 4 ((gI h80 60 4) + (nI 1))) 60 (((nI 26) + r80).toNatClampNeg)) + (nI 1))) Q from ?_)
          refine At_aload_n (pc' := 119) iX11_singsTruly_118 rfl rfl ?_
          refine At_iload (pc' := 121) iX11_singsTruly_119 rfl rfl ?_
          refine At_virt (pc' := 124) iX11_singsTruly_121 rfl m_11_208 rfl rfl (kdK eT80 (kd_59 hL)) (Nat.le_of_ble_eq_true rfl) (Nat.le_of_ble_eq_true rfl) ?_
          obtain ⟨hn5, hv⟩ := hv
          refine c_X11_writes (h := sI (sI h80 60 4 ((gI h80 60 4) + (nI 1))) 60 (((nI 26) + r80).toNatClampNeg) ((gI (sI h80 60 4 ((gI h80 60 4) + (nI 1))) 60 (((nI 26) + r80).toNatClampNeg)) + (nI 1))) hL eT80 r80  hn5 (show At (d + 3) MX11_singsTruly 124 [.ref 59, .int x1, .int x2, .int x3, .int (nI 0), .int r80] [] (w_X11_writes r80 (sI (sI h80 60 4 ((gI h80 60 4) + (nI 1))) 60 (((nI 26) + r80).toNatClampNeg) ((gI (sI h80 60 4 ((gI h80 60 4) + (nI 1))) 60 (((nI 26) + r80).toNatClampNeg)) + (nI 1)))) Q from ?_)
          refine At_iinc (v := nI 1) (L' := [.ref 59, .int x1, .int (x2 + nI 1), .int x3, .int (nI 0), .int r80]) (pc' := 127) iX11_singsTruly_124 rfl rfl (Nat.le_of_ble_eq_true rfl) (by decide) rfl ?_
          refine At_iinc (v := nI 1) (L' := [.ref 59, .int x1, .int (x2 + nI 1), .int (x3 + nI 1), .int (nI 0), .int r80]) (pc' := 130) iX11_singsTruly_127 rfl rfl (Nat.le_of_ble_eq_true rfl) (by decide) rfl ?_
          refine At_goto (t := 8) iX11_singsTruly_130 (by decide) ?_
          exact hv _ _
        · have hv := hv.1 c88
          refine At_goto (t := 127) iX11_singsTruly_91 (by decide) ?_
          refine At_iinc (v := nI 1) (L' := [.ref 59, .int x1, .int x2, .int (x3 + nI 1), .int (nI 0), .int r80]) (pc' := 130) iX11_singsTruly_127 rfl rfl (Nat.le_of_ble_eq_true rfl) (by decide) rfl ?_
          refine At_goto (t := 8) iX11_singsTruly_130 (by decide) ?_
          exact hv _ _
      · have hv := hv.1 c42
        refine At_aload_n (pc' := 46) iX11_singsTruly_45 rfl rfl ?_
        refine At_getR (pc' := 49) iX11_singsTruly_46 rfl f_11_7 (kdK eT (kd_59 hL)) (by decide) (rfH eT (rf_59_0 hL)) ?_
        refine At_iconst (v := nI 1) (pc' := 50) iX11_singsTruly_49 rfl (by decide) ?_
        refine At_iald (pc' := 51) iX11_singsTruly_50 rfl (kdH eT (kd_60 hL)) (by decide) (show At (d + 3) MX11_singsTruly 51 [.ref 59, .int x1, .int x2, .int x3, .int (nI 0), v5] [.int (gI h 60 1)] h Q from ?_)
        refine At_if_le (t := 73) (pc' := 54) iX11_singsTruly_51 (by decide) rfl (fun c51 => ?_) (fun c51 => ?_)
        · have hv := hv.2 c51
          refine At_aload_n (pc' := 74) iX11_singsTruly_73 rfl rfl ?_
          refine At_iload_n (pc' := 75) iX11_singsTruly_74 rfl rfl ?_
          refine At_iload_n (pc' := 76) iX11_singsTruly_75 rfl rfl ?_
          refine At_iconst (v := nI 0) (pc' := 77) iX11_singsTruly_76 rfl (by decide) ?_
          refine At_iconst (v := nI 1) (pc' := 78) iX11_singsTruly_77 rfl (by decide) ?_
          refine At_iconst (v := (-1)) (pc' := 79) iX11_singsTruly_78 rfl (by decide) ?_
          refine At_iconst (v := nI 1) (pc' := 80) iX11_singsTruly_79 rfl (by decide) ?_
          refine At_virt (pc' := 83) iX11_singsTruly_80 rfl m_11_198 rfl rfl (kdK eT (kd_59 hL)) (Nat.le_of_ble_eq_true rfl) (Nat.le_of_ble_eq_true rfl) ?_
          refine At.mono (show CallI (d + 2) MX11_moves [.ref 59, .int x1, .int x3, .int (nI 0), .int (nI 1), .int (-1), .int (nI 1)] h _ from hv) ?_
          rintro _ h80 ⟨r80, rfl, eT80, hv⟩
          show At (d + 3) MX11_singsTruly 83 [.ref 59, .int x1, .int x2, .int x3, .int (nI 0), v5] [.int r80] h80 Q
          refine At_istore (L' := [.ref 59, .int x1, .int x2, .int x3, .int (nI 0), .int r80]) (pc' := 85) iX11_singsTruly_83 rfl (Nat.le_of_ble_eq_true rfl) rfl ?_
          refine At_iload (pc' := 87) iX11_singsTruly_85 rfl rfl ?_
          refine At_iconst (v := (-1)) (pc' := 88) iX11_singsTruly_87 rfl (by decide) ?_
          refine At_icmp_ne (t := 94) (pc' := 91) iX11_singsTruly_88 (by decide) rfl (fun c88 => ?_) (fun c88 => ?_)
          · have hv := hv.2 c88
            refine At_aload_n (pc' := 95) iX11_singsTruly_94 rfl rfl ?_
            refine At_getR (pc' := 98) iX11_singsTruly_95 rfl f_11_7 (kdK eT80 (kd_59 hL)) (by decide) (rfH eT80 (rf_59_0 hL)) ?_
            refine At_iconst (v := nI 4) (pc' := 99) iX11_singsTruly_98 rfl (by decide) ?_
            refine At_dup2 (pc' := 100) iX11_singsTruly_99 rfl rfl rfl ?_
            refine At_iald (pc' := 101) iX11_singsTruly_100 rfl (kdH eT80 (kd_60 hL)) (by decide) (show At (d + 3) MX11_singsTruly 101 [.ref 59, .int x1, .int x2, .int x3, .int (nI 0), .int r80] [.int (gI h80 60 4), .int (nI 4), .ref 60] h80 Q from ?_)
            refine At_iconst (v := nI 1) (pc' := 102) iX11_singsTruly_101 rfl (by decide) ?_
            refine At_iadd (pc' := 103) iX11_singsTruly_102 rfl ?_
            refine At_iast (pc' := 104) iX11_singsTruly_103 rfl (kdH eT80 (kd_60 hL)) (by decide) (show At (d + 3) MX11_singsTruly 104 [.ref 59, .int x1, .int x2, .int x3, .int (nI 0), .int r80] [] (sI h80 60 4 ((gI h80 60 4) + (nI 1))) Q from ?_)
            refine At_aload_n (pc' := 105) iX11_singsTruly_104 rfl rfl ?_
            refine At_getR (pc' := 108) iX11_singsTruly_105 rfl f_11_7 (kdK eT80 (kd_59 hL)) (by decide) (rfH eT80 (rf_59_0 hL)) ?_
            refine At_bipush (v := nI 26) (pc' := 110) iX11_singsTruly_108 rfl (by decide) ?_
            refine At_iload (pc' := 112) iX11_singsTruly_110 rfl rfl ?_
            refine At_iadd (pc' := 113) iX11_singsTruly_112 rfl ?_
            refine At_dup2 (pc' := 114) iX11_singsTruly_113 rfl rfl rfl ?_
            obtain ⟨hn6, hv⟩ := hv
            refine At_iald (pc' := 115) iX11_singsTruly_114 rfl (kdH eT80 (kd_60 hL)) hn6 (show At (d + 3) MX11_singsTruly 115 [.ref 59, .int x1, .int x2, .int x3, .int (nI 0), .int r80] [.int (gI (sI h80 60 4 ((gI h80 60 4) + (nI 1))) 60 (((nI 26) + r80).toNatClampNeg)), .int ((nI 26) + r80), .ref 60] (sI h80 60 4 ((gI h80 60 4) + (nI 1))) Q from ?_)
            refine At_iconst (v := nI 1) (pc' := 116) iX11_singsTruly_115 rfl (by decide) ?_
            refine At_iadd (pc' := 117) iX11_singsTruly_116 rfl ?_
            obtain ⟨hn7, hv⟩ := hv
            refine At_iast (pc' := 118) iX11_singsTruly_117 rfl (kdH eT80 (kd_60 hL)) hn7 (show At (d + 3) MX11_singsTruly 118 [.ref 59, .int x1, .int x2, .int x3, .int (nI 0), .int r80] [] (sI (sI h80 60 4 ((gI h80 60 4) + (nI 1))) 60 (((nI 26) + r80).toNatClampNeg) ((gI (sI h80 60 4 ((gI h80 60 4) + (nI 1))) 60 (((nI 26) + r80).toNatClampNeg)) + (nI 1))) Q from ?_)
            refine At_aload_n (pc' := 119) iX11_singsTruly_118 rfl rfl ?_
            refine At_iload (pc' := 121) iX11_singsTruly_119 rfl rfl ?_
            refine At_virt (pc' := 124) iX11_singsTruly_121 rfl m_11_208 rfl rfl (kdK eT80 (kd_59 hL)) (Nat.le_of_ble_eq_true rfl) (Nat.le_of_ble_eq_true rfl) ?_
            obtain ⟨hn8, hv⟩ := hv
            refine c_X11_writes (h := sI (sI h80 60 4 ((gI h80 60 4) + (nI 1))) 60 (((nI 26) + r80).toNatClampNeg) ((gI (sI h80 60 4 ((gI h80 60 4) + (nI 1))) 60 (((nI 26) + r80).toNatClampNeg)) + (nI 1))) hL eT80 r80  hn8 (show At (d + 3) MX11_singsTruly 124 [.ref 59, .int x1, .int x2, .int x3, .int (nI 0), .int r80] [] (w_X11_writes r80 (sI (sI h80 60 4 ((gI h80 60 4) + (nI 1))) 60 (((nI 26) + r80).toNatClampNeg) ((gI (sI h80 60 4 ((gI h80 60 4) + (nI 1))) 60 (((nI 26) + r80).toNatClampNeg)) + (nI 1)))) Q from ?_)
            refine At_iinc (v := nI 1) (L' := [.ref 59, .int x1, .int (x2 + nI 1), .int x3, .int (nI 0), .int r80]) (pc' := 127) iX11_singsTruly_124 rfl rfl (Nat.le_of_ble_eq_true rfl) (by decide) rfl ?_
            refine At_iinc (v := nI 1) (L' := [.ref 59, .int x1, .int (x2 + nI 1), .int (x3 + nI 1), .int (nI 0), .int r80]) (pc' := 130) iX11_singsTruly_127 rfl rfl (Nat.le_of_ble_eq_true rfl) (by decide) rfl ?_
            refine At_goto (t := 8) iX11_singsTruly_130 (by decide) ?_
            exact hv _ _
          · have hv := hv.1 c88
            refine At_goto (t := 127) iX11_singsTruly_91 (by decide) ?_
            refine At_iinc (v := nI 1) (L' := [.ref 59, .int x1, .int x2, .int (x3 + nI 1), .int (nI 0), .int r80]) (pc' := 130) iX11_singsTruly_127 rfl rfl (Nat.le_of_ble_eq_true rfl) (by decide) rfl ?_
            refine At_goto (t := 8) iX11_singsTruly_130 (by decide) ?_
            exact hv _ _
        · have hv := hv.1 c51
          refine At_aload_n (pc' := 55) iX11_singsTruly_54 rfl rfl ?_
          refine At_sipush (v := nI 1000) (pc' := 58) iX11_singsTruly_55 rfl (by decide) ?_
          refine At_virt (pc' := 61) iX11_singsTruly_58 rfl m_11_205 rfl rfl (kdK eT (kd_59 hL)) (Nat.le_of_ble_eq_true rfl) (Nat.le_of_ble_eq_true rfl) ?_
          obtain ⟨hn9, hv⟩ := hv
          refine c_X11_draw (h := h) hL eT (nI 1000)  hn9 (show At (d + 3) MX11_singsTruly 61 [.ref 59, .int x1, .int x2, .int x3, .int (nI 0), v5] [.int (r_X11_draw (nI 1000) h)] (w_X11_draw (nI 1000) h) Q from ?_)
          refine At_aload_n (pc' := 62) iX11_singsTruly_61 rfl rfl ?_
          refine At_getR (pc' := 65) iX11_singsTruly_62 rfl f_11_7 (kdK ((wT_X11_draw (nI 1000) h).trans eT) (kd_59 hL)) (by decide) (rfH ((wT_X11_draw (nI 1000) h).trans eT) (rf_59_0 hL)) ?_
          refine At_iconst (v := nI 1) (pc' := 66) iX11_singsTruly_65 rfl (by decide) ?_
          refine At_iald (pc' := 67) iX11_singsTruly_66 rfl (kdH ((wT_X11_draw (nI 1000) h).trans eT) (kd_60 hL)) (by decide) (show At (d + 3) MX11_singsTruly 67 [.ref 59, .int x1, .int x2, .int x3, .int (nI 0), v5] [.int (gI (w_X11_draw (nI 1000) h) 60 1), .int (r_X11_draw (nI 1000) h)] (w_X11_draw (nI 1000) h) Q from ?_)
          refine At_icmp_ge (t := 73) (pc' := 70) iX11_singsTruly_67 (by decide) rfl (fun c67 => ?_) (fun c67 => ?_)
          · have hv := hv.2 c67
            refine At_aload_n (pc' := 74) iX11_singsTruly_73 rfl rfl ?_
            refine At_iload_n (pc' := 75) iX11_singsTruly_74 rfl rfl ?_
            refine At_iload_n (pc' := 76) iX11_singsTruly_75 rfl rfl ?_
            refine At_iconst (v := nI 0) (pc' := 77) iX11_singsTruly_76 rfl (by decide) ?_
            refine At_iconst (v := nI 1) (pc' := 78) iX11_singsTruly_77 rfl (by decide) ?_
            refine At_iconst (v := (-1)) (pc' := 79) iX11_singsTruly_78 rfl (by decide) ?_
            refine At_iconst (v := nI 1) (pc' := 80) iX11_singsTruly_79 rfl (by decide) ?_
            refine At_virt (pc' := 83) iX11_singsTruly_80 rfl m_11_198 rfl rfl (kdK ((wT_X11_draw (nI 1000) h).trans eT) (kd_59 hL)) (Nat.le_of_ble_eq_true rfl) (Nat.le_of_ble_eq_true rfl) ?_
            refine At.mono (show CallI (d + 2) MX11_moves [.ref 59, .int x1, .int x3, .int (nI 0), .int (nI 1), .int (-1), .int (nI 1)] (w_X11_draw (nI 1000) h) _ from hv) ?_
            rintro _ h80 ⟨r80, rfl, eT80, hv⟩
            show At (d + 3) MX11_singsTruly 83 [.ref 59, .int x1, .int x2, .int x3, .int (nI 0), v5] [.int r80] h80 Q
            refine At_istore (L' := [.ref 59, .int x1, .int x2, .int x3, .int (nI 0), .int r80]) (pc' := 85) iX11_singsTruly_83 rfl (Nat.le_of_ble_eq_true rfl) rfl ?_
            refine At_iload (pc' := 87) iX11_singsTruly_85 rfl rfl ?_
            refine At_iconst (v := (-1)) (pc' := 88) iX11_singsTruly_87 rfl (by decide) ?_
            refine At_icmp_ne (t := 94) (pc' := 91) iX11_singsTruly_88 (by decide) rfl (fun c88 => ?_) (fun c88 => ?_)
            · have hv := hv.2 c88
              refine At_aload_n (pc' := 95) iX11_singsTruly_94 rfl rfl ?_
              refine At_getR (pc' := 98) iX11_singsTruly_95 rfl f_11_7 (kdK eT80 (kd_59 hL)) (by decide) (rfH eT80 (rf_59_0 hL)) ?_
              refine At_iconst (v := nI 4) (pc' := 99) iX11_singsTruly_98 rfl (by decide) ?_
              refine At_dup2 (pc' := 100) iX11_singsTruly_99 rfl rfl rfl ?_
              refine At_iald (pc' := 101) iX11_singsTruly_100 rfl (kdH eT80 (kd_60 hL)) (by decide) (show At (d + 3) MX11_singsTruly 101 [.ref 59, .int x1, .int x2, .int x3, .int (nI 0), .int r80] [.int (gI h80 60 4), .int (nI 4), .ref 60] h80 Q from ?_)
              refine At_iconst (v := nI 1) (pc' := 102) iX11_singsTruly_101 rfl (by decide) ?_
              refine At_iadd (pc' := 103) iX11_singsTruly_102 rfl ?_
              refine At_iast (pc' := 104) iX11_singsTruly_103 rfl (kdH eT80 (kd_60 hL)) (by decide) (show At (d + 3) MX11_singsTruly 104 [.ref 59, .int x1, .int x2, .int x3, .int (nI 0), .int r80] [] (sI h80 60 4 ((gI h80 60 4) + (nI 1))) Q from ?_)
              refine At_aload_n (pc' := 105) iX11_singsTruly_104 rfl rfl ?_
              refine At_getR (pc' := 108) iX11_singsTruly_105 rfl f_11_7 (kdK eT80 (kd_59 hL)) (by decide) (rfH eT80 (rf_59_0 hL)) ?_
              refine At_bipush (v := nI 26) (pc' := 110) iX11_singsTruly_108 rfl (by decide) ?_
              refine At_iload (pc' := 112) iX11_singsTruly_110 rfl rfl ?_
              refine At_iadd (pc' := 113) iX11_singsTruly_112 rfl ?_
              refine At_dup2 (pc' := 114) iX11_singsTruly_113 rfl rfl rfl ?_
              obtain ⟨hn10, hv⟩ := hv
              refine At_iald (pc' := 115) iX11_singsTruly_114 rfl (kdH eT80 (kd_60 hL)) hn10 (show At (d + 3) MX11_singsTruly 115 [.ref 59, .int x1, .int x2, .int x3, .int (nI 0), .int r80] [.int (gI (sI h80 60 4 ((gI h80 60 4) + (nI 1))) 60 (((nI 26) + r80).toNatClampNeg)), .int ((nI 26) + r80), .ref 60] (sI h80 60 4 ((gI h80 60 4) + (nI 1))) Q from ?_)
              refine At_iconst (v := nI 1) (pc' := 116) iX11_singsTruly_115 rfl (by decide) ?_
              refine At_iadd (pc' := 117) iX11_singsTruly_116 rfl ?_
              obtain ⟨hn11, hv⟩ := hv
              refine At_iast (pc' := 118) iX11_singsTruly_117 rfl (kdH eT80 (kd_60 hL)) hn11 (show At (d + 3) MX11_singsTruly 118 [.ref 59, .int x1, .int x2, .int x3, .int (nI 0), .int r80] [] (sI (sI h80 60 4 ((gI h80 60 4) + (nI 1))) 60 (((nI 26) + r80).toNatClampNeg) ((gI (sI h80 60 4 ((gI h80 60 4) + (nI 1))) 60 (((nI 26) + r80).toNatClampNeg)) + (nI 1))) Q from ?_)
              refine At_aload_n (pc' := 119) iX11_singsTruly_118 rfl rfl ?_
              refine At_iload (pc' := 121) iX11_singsTruly_119 rfl rfl ?_
              refine At_virt (pc' := 124) iX11_singsTruly_121 rfl m_11_208 rfl rfl (kdK eT80 (kd_59 hL)) (Nat.le_of_ble_eq_true rfl) (Nat.le_of_ble_eq_true rfl) ?_
              obtain ⟨hn12, hv⟩ := hv
              refine c_X11_writes (h := sI (sI h80 60 4 ((gI h80 60 4) + (nI 1))) 60 (((nI 26) + r80).toNatClampNeg) ((gI (sI h80 60 4 ((gI h80 60 4) + (nI 1))) 60 (((nI 26) + r80).toNatClampNeg)) + (nI 1))) hL eT80 r80  hn12 (show At (d + 3) MX11_singsTruly 124 [.ref 59, .int x1, .int x2, .int x3, .int (nI 0), .int r80] [] (w_X11_writes r80 (sI (sI h80 60 4 ((gI h80 60 4) + (nI 1))) 60 (((nI 26) + r80).toNatClampNeg) ((gI (sI h80 60 4 ((gI h80 60 4) + (nI 1))) 60 (((nI 26) + r80).toNatClampNeg)) + (nI 1)))) Q from ?_)
              refine At_iinc (v := nI 1) (L' := [.ref 59, .int x1, .int (x2 + nI 1), .int x3, .int (nI 0), .int r80]) (pc' := 127) iX11_singsTruly_124 rfl rfl (Nat.le_of_ble_eq_true rfl) (by decide) rfl ?_
              refine At_iinc (v := nI 1) (L' := [.ref 59, .int x1, .int (x2 + nI 1), .int (x3 + nI 1), .int (nI 0), .int r80]) (pc' := 130) iX11_singsTruly_127 rfl rfl (Nat.le_of_ble_eq_true rfl) (by decide) rfl ?_
              refine At_goto (t := 8) iX11_singsTruly_130 (by decide) ?_
              exact hv _ _
            · have hv := hv.1 c88
              refine At_goto (t := 127) iX11_singsTruly_91 (by decide) ?_
              refine At_iinc (v := nI 1) (L' := [.ref 59, .int x1, .int x2, .int (x3 + nI 1), .int (nI 0), .int r80]) (pc' := 130) iX11_singsTruly_127 rfl rfl (Nat.le_of_ble_eq_true rfl) (by decide) rfl ?_
              refine At_goto (t := 8) iX11_singsTruly_130 (by decide) ?_
              exact hv _ _
          · have hv := hv.1 c67
            refine At_goto (t := 127) iX11_singsTruly_70 (by decide) ?_
            refine At_iinc (v := nI 1) (L' := [.ref 59, .int x1, .int x2, .int (x3 + nI 1), .int (nI 0), v5]) (pc' := 130) iX11_singsTruly_127 rfl rfl (Nat.le_of_ble_eq_true rfl) (by decide) rfl ?_
            refine At_goto (t := 8) iX11_singsTruly_130 (by decide) ?_
            exact hv _ _
    · have hv := hv.1 c30
      refine At_iconst (v := nI 1) (pc' := 34) iX11_singsTruly_33 rfl (by decide) ?_
      refine At_goto (t := 38) iX11_singsTruly_34 (by decide) ?_
      refine At_istore (L' := [.ref 59, .int x1, .int x2, .int x3, .int (nI 1), v5]) (pc' := 40) iX11_singsTruly_38 rfl (Nat.le_of_ble_eq_true rfl) rfl ?_
      refine At_iload (pc' := 42) iX11_singsTruly_40 rfl rfl ?_
      refine At_if_ne (t := 73) (pc' := 45) iX11_singsTruly_42 (by decide) rfl (fun c42 => ?_) (fun c42 => ?_)
      · have hv := hv.2 c42
        refine At_aload_n (pc' := 74) iX11_singsTruly_73 rfl rfl ?_
        refine At_iload_n (pc' := 75) iX11_singsTruly_74 rfl rfl ?_
        refine At_iload_n (pc' := 76) iX11_singsTruly_75 rfl rfl ?_
        refine At_iconst (v := nI 0) (pc' := 77) iX11_singsTruly_76 rfl (by decide) ?_
        refine At_iconst (v := nI 1) (pc' := 78) iX11_singsTruly_77 rfl (by decide) ?_
        refine At_iconst (v := (-1)) (pc' := 79) iX11_singsTruly_78 rfl (by decide) ?_
        refine At_iconst (v := nI 1) (pc' := 80) iX11_singsTruly_79 rfl (by decide) ?_
        refine At_virt (pc' := 83) iX11_singsTruly_80 rfl m_11_198 rfl rfl (kdK eT (kd_59 hL)) (Nat.le_of_ble_eq_true rfl) (Nat.le_of_ble_eq_true rfl) ?_
        refine At.mono (show CallI (d + 2) MX11_moves [.ref 59, .int x1, .int x3, .int (nI 0), .int (nI 1), .int (-1), .int (nI 1)] h _ from hv) ?_
        rintro _ h80 ⟨r80, rfl, eT80, hv⟩
        show At (d + 3) MX11_singsTruly 83 [.ref 59, .int x1, .int x2, .int x3, .int (nI 1), v5] [.int r80] h80 Q
        refine At_istore (L' := [.ref 59, .int x1, .int x2, .int x3, .int (nI 1), .int r80]) (pc' := 85) iX11_singsTruly_83 rfl (Nat.le_of_ble_eq_true rfl) rfl ?_
        refine At_iload (pc' := 87) iX11_singsTruly_85 rfl rfl ?_
        refine At_iconst (v := (-1)) (pc' := 88) iX11_singsTruly_87 rfl (by decide) ?_
        refine At_icmp_ne (t := 94) (pc' := 91) iX11_singsTruly_88 (by decide) rfl (fun c88 => ?_) (fun c88 => ?_)
        · have hv := hv.2 c88
          refine At_aload_n (pc' := 95) iX11_singsTruly_94 rfl rfl ?_
          refine At_getR (pc' := 98) iX11_singsTruly_95 rfl f_11_7 (kdK eT80 (kd_59 hL)) (by decide) (rfH eT80 (rf_59_0 hL)) ?_
          refine At_iconst (v := nI 4) (pc' := 99) iX11_singsTruly_98 rfl (by decide) ?_
          refine At_dup2 (pc' := 100) iX11_singsTruly_99 rfl rfl rfl ?_
          refine At_iald (pc' := 101) iX11_singsTruly_100 rfl (kdH eT80 (kd_60 hL)) (by decide) (show At (d + 3) MX11_singsTruly 101 [.ref 59, .int x1, .int x2, .int x3, .int (nI 1), .int r80] [.int (gI h80 60 4), .int (nI 4), .ref 60] h80 Q from ?_)
          refine At_iconst (v := nI 1) (pc' := 102) iX11_singsTruly_101 rfl (by decide) ?_
          refine At_iadd (pc' := 103) iX11_singsTruly_102 rfl ?_
          refine At_iast (pc' := 104) iX11_singsTruly_103 rfl (kdH eT80 (kd_60 hL)) (by decide) (show At (d + 3) MX11_singsTruly 104 [.ref 59, .int x1, .int x2, .int x3, .int (nI 1), .int r80] [] (sI h80 60 4 ((gI h80 60 4) + (nI 1))) Q from ?_)
          refine At_aload_n (pc' := 105) iX11_singsTruly_104 rfl rfl ?_
          refine At_getR (pc' := 108) iX11_singsTruly_105 rfl f_11_7 (kdK eT80 (kd_59 hL)) (by decide) (rfH eT80 (rf_59_0 hL)) ?_
          refine At_bipush (v := nI 26) (pc' := 110) iX11_singsTruly_108 rfl (by decide) ?_
          refine At_iload (pc' := 112) iX11_singsTruly_110 rfl rfl ?_
          refine At_iadd (pc' := 113) iX11_singsTruly_112 rfl ?_
          refine At_dup2 (pc' := 114) iX11_singsTruly_113 rfl rfl rfl ?_
          obtain ⟨hn13, hv⟩ := hv
          refine At_iald (pc' := 115) iX11_singsTruly_114 rfl (kdH eT80 (kd_60 hL)) hn13 (show At (d + 3) MX11_singsTruly 115 [.ref 59, .int x1, .int x2, .int x3, .int (nI 1), .int r80] [.int (gI (sI h80 60 4 ((gI h80 60 4) + (nI 1))) 60 (((nI 26) + r80).toNatClampNeg)), .int ((nI 26) + r80), .ref 60] (sI h80 60 4 ((gI h80 60 4) + (nI 1))) Q from ?_)
          refine At_iconst (v := nI 1) (pc' := 116) iX11_singsTruly_115 rfl (by decide) ?_
          refine At_iadd (pc' := 117) iX11_singsTruly_116 rfl ?_
          obtain ⟨hn14, hv⟩ := hv
          refine At_iast (pc' := 118) iX11_singsTruly_117 rfl (kdH eT80 (kd_60 hL)) hn14 (show At (d + 3) MX11_singsTruly 118 [.ref 59, .int x1, .int x2, .int x3, .int (nI 1), .int r80] [] (sI (sI h80 60 4 ((gI h80 60 4) + (nI 1))) 60 (((nI 26) + r80).toNatClampNeg) ((gI (sI h80 60 4 ((gI h80 60 4) + (nI 1))) 60 (((nI 26) + r80).toNatClampNeg)) + (nI 1))) Q from ?_)
          refine At_aload_n (pc' := 119) iX11_singsTruly_118 rfl rfl ?_
          refine At_iload (pc' := 121) iX11_singsTruly_119 rfl rfl ?_
          refine At_virt (pc' := 124) iX11_singsTruly_121 rfl m_11_208 rfl rfl (kdK eT80 (kd_59 hL)) (Nat.le_of_ble_eq_true rfl) (Nat.le_of_ble_eq_true rfl) ?_
          obtain ⟨hn15, hv⟩ := hv
          refine c_X11_writes (h := sI (sI h80 60 4 ((gI h80 60 4) + (nI 1))) 60 (((nI 26) + r80).toNatClampNeg) ((gI (sI h80 60 4 ((gI h80 60 4) + (nI 1))) 60 (((nI 26) + r80).toNatClampNeg)) + (nI 1))) hL eT80 r80  hn15 (show At (d + 3) MX11_singsTruly 124 [.ref 59, .int x1, .int x2, .int x3, .int (nI 1), .int r80] [] (w_X11_writes r80 (sI (sI h80 60 4 ((gI h80 60 4) + (nI 1))) 60 (((nI 26) + r80).toNatClampNeg) ((gI (sI h80 60 4 ((gI h80 60 4) + (nI 1))) 60 (((nI 26) + r80).toNatClampNeg)) + (nI 1)))) Q from ?_)
          refine At_iinc (v := nI 1) (L' := [.ref 59, .int x1, .int (x2 + nI 1), .int x3, .int (nI 1), .int r80]) (pc' := 127) iX11_singsTruly_124 rfl rfl (Nat.le_of_ble_eq_true rfl) (by decide) rfl ?_
          refine At_iinc (v := nI 1) (L' := [.ref 59, .int x1, .int (x2 + nI 1), .int (x3 + nI 1), .int (nI 1), .int r80]) (pc' := 130) iX11_singsTruly_127 rfl rfl (Nat.le_of_ble_eq_true rfl) (by decide) rfl ?_
          refine At_goto (t := 8) iX11_singsTruly_130 (by decide) ?_
          exact hv _ _
        · have hv := hv.1 c88
          refine At_goto (t := 127) iX11_singsTruly_91 (by decide) ?_
          refine At_iinc (v := nI 1) (L' := [.ref 59, .int x1, .int x2, .int (x3 + nI 1), .int (nI 1), .int r80]) (pc' := 130) iX11_singsTruly_127 rfl rfl (Nat.le_of_ble_eq_true rfl) (by decide) rfl ?_
          refine At_goto (t := 8) iX11_singsTruly_130 (by decide) ?_
          exact hv _ _
      · have hv := hv.1 c42
        refine At_aload_n (pc' := 46) iX11_singsTruly_45 rfl rfl ?_
        refine At_getR (pc' := 49) iX11_singsTruly_46 rfl f_11_7 (kdK eT (kd_59 hL)) (by decide) (rfH eT (rf_59_0 hL)) ?_
        refine At_iconst (v := nI 1) (pc' := 50) iX11_singsTruly_49 rfl (by decide) ?_
        refine At_iald (pc' := 51) iX11_singsTruly_50 rfl (kdH eT (kd_60 hL)) (by decide) (show At (d + 3) MX11_singsTruly 51 [.ref 59, .int x1, .int x2, .int x3, .int (nI 1), v5] [.int (gI h 60 1)] h Q from ?_)
        refine At_if_le (t := 73) (pc' := 54) iX11_singsTruly_51 (by decide) rfl (fun c51 => ?_) (fun c51 => ?_)
        · have hv := hv.2 c51
          refine At_aload_n (pc' := 74) iX11_singsTruly_73 rfl rfl ?_
          refine At_iload_n (pc' := 75) iX11_singsTruly_74 rfl rfl ?_
          refine At_iload_n (pc' := 76) iX11_singsTruly_75 rfl rfl ?_
          refine At_iconst (v := nI 0) (pc' := 77) iX11_singsTruly_76 rfl (by decide) ?_
          refine At_iconst (v := nI 1) (pc' := 78) iX11_singsTruly_77 rfl (by decide) ?_
          refine At_iconst (v := (-1)) (pc' := 79) iX11_singsTruly_78 rfl (by decide) ?_
          refine At_iconst (v := nI 1) (pc' := 80) iX11_singsTruly_79 rfl (by decide) ?_
          refine At_virt (pc' := 83) iX11_singsTruly_80 rfl m_11_198 rfl rfl (kdK eT (kd_59 hL)) (Nat.le_of_ble_eq_true rfl) (Nat.le_of_ble_eq_true rfl) ?_
          refine At.mono (show CallI (d + 2) MX11_moves [.ref 59, .int x1, .int x3, .int (nI 0), .int (nI 1), .int (-1), .int (nI 1)] h _ from hv) ?_
          rintro _ h80 ⟨r80, rfl, eT80, hv⟩
          show At (d + 3) MX11_singsTruly 83 [.ref 59, .int x1, .int x2, .int x3, .int (nI 1), v5] [.int r80] h80 Q
          refine At_istore (L' := [.ref 59, .int x1, .int x2, .int x3, .int (nI 1), .int r80]) (pc' := 85) iX11_singsTruly_83 rfl (Nat.le_of_ble_eq_true rfl) rfl ?_
          refine At_iload (pc' := 87) iX11_singsTruly_85 rfl rfl ?_
          refine At_iconst (v := (-1)) (pc' := 88) iX11_singsTruly_87 rfl (by decide) ?_
          refine At_icmp_ne (t := 94) (pc' := 91) iX11_singsTruly_88 (by decide) rfl (fun c88 => ?_) (fun c88 => ?_)
          · have hv := hv.2 c88
            refine At_aload_n (pc' := 95) iX11_singsTruly_94 rfl rfl ?_
            refine At_getR (pc' := 98) iX11_singsTruly_95 rfl f_11_7 (kdK eT80 (kd_59 hL)) (by decide) (rfH eT80 (rf_59_0 hL)) ?_
            refine At_iconst (v := nI 4) (pc' := 99) iX11_singsTruly_98 rfl (by decide) ?_
            refine At_dup2 (pc' := 100) iX11_singsTruly_99 rfl rfl rfl ?_
            refine At_iald (pc' := 101) iX11_singsTruly_100 rfl (kdH eT80 (kd_60 hL)) (by decide) (show At (d + 3) MX11_singsTruly 101 [.ref 59, .int x1, .int x2, .int x3, .int (nI 1), .int r80] [.int (gI h80 60 4), .int (nI 4), .ref 60] h80 Q from ?_)
            refine At_iconst (v := nI 1) (pc' := 102) iX11_singsTruly_101 rfl (by decide) ?_
            refine At_iadd (pc' := 103) iX11_singsTruly_102 rfl ?_
            refine At_iast (pc' := 104) iX11_singsTruly_103 rfl (kdH eT80 (kd_60 hL)) (by decide) (show At (d + 3) MX11_singsTruly 104 [.ref 59, .int x1, .int x2, .int x3, .int (nI 1), .int r80] [] (sI h80 60 4 ((gI h80 60 4) + (nI 1))) Q from ?_)
            refine At_aload_n (pc' := 105) iX11_singsTruly_104 rfl rfl ?_
            refine At_getR (pc' := 108) iX11_singsTruly_105 rfl f_11_7 (kdK eT80 (kd_59 hL)) (by decide) (rfH eT80 (rf_59_0 hL)) ?_
            refine At_bipush (v := nI 26) (pc' := 110) iX11_singsTruly_108 rfl (by decide) ?_
            refine At_iload (pc' := 112) iX11_singsTruly_110 rfl rfl ?_
            refine At_iadd (pc' := 113) iX11_singsTruly_112 rfl ?_
            refine At_dup2 (pc' := 114) iX11_singsTruly_113 rfl rfl rfl ?_
            obtain ⟨hn16, hv⟩ := hv
            refine At_iald (pc' := 115) iX11_singsTruly_114 rfl (kdH eT80 (kd_60 hL)) hn16 (show At (d + 3) MX11_singsTruly 115 [.ref 59, .int x1, .int x2, .int x3, .int (nI 1), .int r80] [.int (gI (sI h80 60 4 ((gI h80 60 4) + (nI 1))) 60 (((nI 26) + r80).toNatClampNeg)), .int ((nI 26) + r80), .ref 60] (sI h80 60 4 ((gI h80 60 4) + (nI 1))) Q from ?_)
            refine At_iconst (v := nI 1) (pc' := 116) iX11_singsTruly_115 rfl (by decide) ?_
            refine At_iadd (pc' := 117) iX11_singsTruly_116 rfl ?_
            obtain ⟨hn17, hv⟩ := hv
            refine At_iast (pc' := 118) iX11_singsTruly_117 rfl (kdH eT80 (kd_60 hL)) hn17 (show At (d + 3) MX11_singsTruly 118 [.ref 59, .int x1, .int x2, .int x3, .int (nI 1), .int r80] [] (sI (sI h80 60 4 ((gI h80 60 4) + (nI 1))) 60 (((nI 26) + r80).toNatClampNeg) ((gI (sI h80 60 4 ((gI h80 60 4) + (nI 1))) 60 (((nI 26) + r80).toNatClampNeg)) + (nI 1))) Q from ?_)
            refine At_aload_n (pc' := 119) iX11_singsTruly_118 rfl rfl ?_
            refine At_iload (pc' := 121) iX11_singsTruly_119 rfl rfl ?_
            refine At_virt (pc' := 124) iX11_singsTruly_121 rfl m_11_208 rfl rfl (kdK eT80 (kd_59 hL)) (Nat.le_of_ble_eq_true rfl) (Nat.le_of_ble_eq_true rfl) ?_
            obtain ⟨hn18, hv⟩ := hv
            refine c_X11_writes (h := sI (sI h80 60 4 ((gI h80 60 4) + (nI 1))) 60 (((nI 26) + r80).toNatClampNeg) ((gI (sI h80 60 4 ((gI h80 60 4) + (nI 1))) 60 (((nI 26) + r80).toNatClampNeg)) + (nI 1))) hL eT80 r80  hn18 (show At (d + 3) MX11_singsTruly 124 [.ref 59, .int x1, .int x2, .int x3, .int (nI 1), .int r80] [] (w_X11_writes r80 (sI (sI h80 60 4 ((gI h80 60 4) + (nI 1))) 60 (((nI 26) + r80).toNatClampNeg) ((gI (sI h80 60 4 ((gI h80 60 4) + (nI 1))) 60 (((nI 26) + r80).toNatClampNeg)) + (nI 1)))) Q from ?_)
            refine At_iinc (v := nI 1) (L' := [.ref 59, .int x1, .int (x2 + nI 1), .int x3, .int (nI 1), .int r80]) (pc' := 127) iX11_singsTruly_124 rfl rfl (Nat.le_of_ble_eq_true rfl) (by decide) rfl ?_
            refine At_iinc (v := nI 1) (L' := [.ref 59, .int x1, .int (x2 + nI 1), .int (x3 + nI 1), .int (nI 1), .int r80]) (pc' := 130) iX11_singsTruly_127 rfl rfl (Nat.le_of_ble_eq_true rfl) (by decide) rfl ?_
            refine At_goto (t := 8) iX11_singsTruly_130 (by decide) ?_
            exact hv _ _
          · have hv := hv.1 c88
            refine At_goto (t := 127) iX11_singsTruly_91 (by decide) ?_
            refine At_iinc (v := nI 1) (L' := [.ref 59, .int x1, .int x2, .int (x3 + nI 1), .int (nI 1), .int r80]) (pc' := 130) iX11_singsTruly_127 rfl rfl (Nat.le_of_ble_eq_true rfl) (by decide) rfl ?_
            refine At_goto (t := 8) iX11_singsTruly_130 (by decide) ?_
            exact hv _ _
        · have hv := hv.1 c51
          refine At_aload_n (pc' := 55) iX11_singsTruly_54 rfl rfl ?_
          refine At_sipush (v := nI 1000) (pc' := 58) iX11_singsTruly_55 rfl (by decide) ?_
          refine At_virt (pc' := 61) iX11_singsTruly_58 rfl m_11_205 rfl rfl (kdK eT (kd_59 hL)) (Nat.le_of_ble_eq_true rfl) (Nat.le_of_ble_eq_true rfl) ?_
          obtain ⟨hn19, hv⟩ := hv
          refine c_X11_draw (h := h) hL eT (nI 1000)  hn19 (show At (d + 3) MX11_singsTruly 61 [.ref 59, .int x1, .int x2, .int x3, .int (nI 1), v5] [.int (r_X11_draw (nI 1000) h)] (w_X11_draw (nI 1000) h) Q from ?_)
          refine At_aload_n (pc' := 62) iX11_singsTruly_61 rfl rfl ?_
          refine At_getR (pc' := 65) iX11_singsTruly_62 rfl f_11_7 (kdK ((wT_X11_draw (nI 1000) h).trans eT) (kd_59 hL)) (by decide) (rfH ((wT_X11_draw (nI 1000) h).trans eT) (rf_59_0 hL)) ?_
          refine At_iconst (v := nI 1) (pc' := 66) iX11_singsTruly_65 rfl (by decide) ?_
          refine At_iald (pc' := 67) iX11_singsTruly_66 rfl (kdH ((wT_X11_draw (nI 1000) h).trans eT) (kd_60 hL)) (by decide) (show At (d + 3) MX11_singsTruly 67 [.ref 59, .int x1, .int x2, .int x3, .int (nI 1), v5] [.int (gI (w_X11_draw (nI 1000) h) 60 1), .int (r_X11_draw (nI 1000) h)] (w_X11_draw (nI 1000) h) Q from ?_)
          refine At_icmp_ge (t := 73) (pc' := 70) iX11_singsTruly_67 (by decide) rfl (fun c67 => ?_) (fun c67 => ?_)
          · have hv := hv.2 c67
            refine At_aload_n (pc' := 74) iX11_singsTruly_73 rfl rfl ?_
            refine At_iload_n (pc' := 75) iX11_singsTruly_74 rfl rfl ?_
            refine At_iload_n (pc' := 76) iX11_singsTruly_75 rfl rfl ?_
            refine At_iconst (v := nI 0) (pc' := 77) iX11_singsTruly_76 rfl (by decide) ?_
            refine At_iconst (v := nI 1) (pc' := 78) iX11_singsTruly_77 rfl (by decide) ?_
            refine At_iconst (v := (-1)) (pc' := 79) iX11_singsTruly_78 rfl (by decide) ?_
            refine At_iconst (v := nI 1) (pc' := 80) iX11_singsTruly_79 rfl (by decide) ?_
            refine At_virt (pc' := 83) iX11_singsTruly_80 rfl m_11_198 rfl rfl (kdK ((wT_X11_draw (nI 1000) h).trans eT) (kd_59 hL)) (Nat.le_of_ble_eq_true rfl) (Nat.le_of_ble_eq_true rfl) ?_
            refine At.mono (show CallI (d + 2) MX11_moves [.ref 59, .int x1, .int x3, .int (nI 0), .int (nI 1), .int (-1), .int (nI 1)] (w_X11_draw (nI 1000) h) _ from hv) ?_
            rintro _ h80 ⟨r80, rfl, eT80, hv⟩
            show At (d + 3) MX11_singsTruly 83 [.ref 59, .int x1, .int x2, .int x3, .int (nI 1), v5] [.int r80] h80 Q
            refine At_istore (L' := [.ref 59, .int x1, .int x2, .int x3, .int (nI 1), .int r80]) (pc' := 85) iX11_singsTruly_83 rfl (Nat.le_of_ble_eq_true rfl) rfl ?_
            refine At_iload (pc' := 87) iX11_singsTruly_85 rfl rfl ?_
            refine At_iconst (v := (-1)) (pc' := 88) iX11_singsTruly_87 rfl (by decide) ?_
            refine At_icmp_ne (t := 94) (pc' := 91) iX11_singsTruly_88 (by decide) rfl (fun c88 => ?_) (fun c88 => ?_)
            · have hv := hv.2 c88
              refine At_aload_n (pc' := 95) iX11_singsTruly_94 rfl rfl ?_
              refine At_getR (pc' := 98) iX11_singsTruly_95 rfl f_11_7 (kdK eT80 (kd_59 hL)) (by decide) (rfH eT80 (rf_59_0 hL)) ?_
              refine At_iconst (v := nI 4) (pc' := 99) iX11_singsTruly_98 rfl (by decide) ?_
              refine At_dup2 (pc' := 100) iX11_singsTruly_99 rfl rfl rfl ?_
              refine At_iald (pc' := 101) iX11_singsTruly_100 rfl (kdH eT80 (kd_60 hL)) (by decide) (show At (d + 3) MX11_singsTruly 101 [.ref 59, .int x1, .int x2, .int x3, .int (nI 1), .int r80] [.int (gI h80 60 4), .int (nI 4), .ref 60] h80 Q from ?_)
              refine At_iconst (v := nI 1) (pc' := 102) iX11_singsTruly_101 rfl (by decide) ?_
              refine At_iadd (pc' := 103) iX11_singsTruly_102 rfl ?_
              refine At_iast (pc' := 104) iX11_singsTruly_103 rfl (kdH eT80 (kd_60 hL)) (by decide) (show At (d + 3) MX11_singsTruly 104 [.ref 59, .int x1, .int x2, .int x3, .int (nI 1), .int r80] [] (sI h80 60 4 ((gI h80 60 4) + (nI 1))) Q from ?_)
              refine At_aload_n (pc' := 105) iX11_singsTruly_104 rfl rfl ?_
              refine At_getR (pc' := 108) iX11_singsTruly_105 rfl f_11_7 (kdK eT80 (kd_59 hL)) (by decide) (rfH eT80 (rf_59_0 hL)) ?_
              refine At_bipush (v := nI 26) (pc' := 110) iX11_singsTruly_108 rfl (by decide) ?_
              refine At_iload (pc' := 112) iX11_singsTruly_110 rfl rfl ?_
              refine At_iadd (pc' := 113) iX11_singsTruly_112 rfl ?_
              refine At_dup2 (pc' := 114) iX11_singsTruly_113 rfl rfl rfl ?_
              obtain ⟨hn20, hv⟩ := hv
              refine At_iald (pc' := 115) iX11_singsTruly_114 rfl (kdH eT80 (kd_60 hL)) hn20 (show At (d + 3) MX11_singsTruly 115 [.ref 59, .int x1, .int x2, .int x3, .int (nI 1), .int r80] [.int (gI (sI h80 60 4 ((gI h80 60 4) + (nI 1))) 60 (((nI 26) + r80).toNatClampNeg)), .int ((nI 26) + r80), .ref 60] (sI h80 60 4 ((gI h80 60 4) + (nI 1))) Q from ?_)
              refine At_iconst (v := nI 1) (pc' := 116) iX11_singsTruly_115 rfl (by decide) ?_
              refine At_iadd (pc' := 117) iX11_singsTruly_116 rfl ?_
              obtain ⟨hn21, hv⟩ := hv
              refine At_iast (pc' := 118) iX11_singsTruly_117 rfl (kdH eT80 (kd_60 hL)) hn21 (show At (d + 3) MX11_singsTruly 118 [.ref 59, .int x1, .int x2, .int x3, .int (nI 1), .int r80] [] (sI (sI h80 60 4 ((gI h80 60 4) + (nI 1))) 60 (((nI 26) + r80).toNatClampNeg) ((gI (sI h80 60 4 ((gI h80 60 4) + (nI 1))) 60 (((nI 26) + r80).toNatClampNeg)) + (nI 1))) Q from ?_)
              refine At_aload_n (pc' := 119) iX11_singsTruly_118 rfl rfl ?_
              refine At_iload (pc' := 121) iX11_singsTruly_119 rfl rfl ?_
              refine At_virt (pc' := 124) iX11_singsTruly_121 rfl m_11_208 rfl rfl (kdK eT80 (kd_59 hL)) (Nat.le_of_ble_eq_true rfl) (Nat.le_of_ble_eq_true rfl) ?_
              obtain ⟨hn22, hv⟩ := hv
              refine c_X11_writes (h := sI (sI h80 60 4 ((gI h80 60 4) + (nI 1))) 60 (((nI 26) + r80).toNatClampNeg) ((gI (sI h80 60 4 ((gI h80 60 4) + (nI 1))) 60 (((nI 26) + r80).toNatClampNeg)) + (nI 1))) hL eT80 r80  hn22 (show At (d + 3) MX11_singsTruly 124 [.ref 59, .int x1, .int x2, .int x3, .int (nI 1), .int r80] [] (w_X11_writes r80 (sI (sI h80 60 4 ((gI h80 60 4) + (nI 1))) 60 (((nI 26) + r80).toNatClampNeg) ((gI (sI h80 60 4 ((gI h80 60 4) + (nI 1))) 60 (((nI 26) + r80).toNatClampNeg)) + (nI 1)))) Q from ?_)
              refine At_iinc (v := nI 1) (L' := [.ref 59, .int x1, .int (x2 + nI 1), .int x3, .int (nI 1), .int r80]) (pc' := 127) iX11_singsTruly_124 rfl rfl (Nat.le_of_ble_eq_true rfl) (by decide) rfl ?_
              refine At_iinc (v := nI 1) (L' := [.ref 59, .int x1, .int (x2 + nI 1), .int (x3 + nI 1), .int (nI 1), .int r80]) (pc' := 130) iX11_singsTruly_127 rfl rfl (Nat.le_of_ble_eq_true rfl) (by decide) rfl ?_
              refine At_goto (t := 8) iX11_singsTruly_130 (by decide) ?_
              exact hv _ _
            · have hv := hv.1 c88
              refine At_goto (t := 127) iX11_singsTruly_91 (by decide) ?_
              refine At_iinc (v := nI 1) (L' := [.ref 59, .int x1, .int x2, .int (x3 + nI 1), .int (nI 1), .int r80]) (pc' := 130) iX11_singsTruly_127 rfl rfl (Nat.le_of_ble_eq_true rfl) (by decide) rfl ?_
              refine At_goto (t := 8) iX11_singsTruly_130 (by decide) ?_
              exact hv _ _
          · have hv := hv.1 c67
            refine At_goto (t := 127) iX11_singsTruly_70 (by decide) ?_
            refine At_iinc (v := nI 1) (L' := [.ref 59, .int x1, .int x2, .int (x3 + nI 1), .int (nI 1), v5]) (pc' := 130) iX11_singsTruly_127 rfl rfl (Nat.le_of_ble_eq_true rfl) (by decide) rfl ?_
            refine At_goto (t := 8) iX11_singsTruly_130 (by decide) ?_
            exact hv _ _
set_option maxRecDepth 20000 in
theorem b_X11_singsTruly_135 {d : Nat} {T : HT} (hL : Lay T) {h : Hp} (eT : h.2.2 = T) (x2 : Int32) (x3 : Int32)  {Q : Option Value → Hp → Prop} (hv : ((x3 < (gI h 60 0)) → ((inB x3 16 = true) ∧ ((inB ((nI 42) + x3) 4180 = true) ∧ (L_X11_singsTruly_135 d x2 (x3 + nI 1) (sI h 60 (((nI 42) + x3).toNatClampNeg) (gI h 65 x3.toNatClampNeg)) Q)))) ∧ (¬ (x3 < (gI h 60 0)) → (Q (some (.int x2)) h))) : L_X11_singsTruly_135 d x2 x3 h Q := by
  intro v1 v4 v5
  refine At_iload_n (pc' := 136) iX11_singsTruly_135 rfl rfl ?_
  refine At_aload_n (pc' := 137) iX11_singsTruly_136 rfl rfl ?_
  refine At_getR (pc' := 140) iX11_singsTruly_137 rfl f_11_7 (kdK eT (kd_59 hL)) (by decide) (rfH eT (rf_59_0 hL)) ?_
  refine At_iconst (v := nI 0) (pc' := 141) iX11_singsTruly_140 rfl (by decide) ?_
  refine At_iald (pc' := 142) iX11_singsTruly_141 rfl (kdH eT (kd_60 hL)) (by decide) (show At (d + 3) MX11_singsTruly 142 [.ref 59, v1, .int x2, .int x3, v4, v5] [.int (gI h 60 0), .int x3] h Q from ?_)
  refine At_icmp_ge (t := 166) (pc' := 145) iX11_singsTruly_142 (by decide) rfl (fun c142 => ?_) (fun c142 => ?_)
  · have hv := hv.2 c142
    refine At_iload_n (pc' := 167) iX11_singsTruly_166 rfl rfl ?_
    exact At_retI iX11_singsTruly_167 rfl hv
  · have hv := hv.1 c142
    refine At_aload_n (pc' := 146) iX11_singsTruly_145 rfl rfl ?_
    refine At_getR (pc' := 149) iX11_singsTruly_146 rfl f_11_7 (kdK eT (kd_59 hL)) (by decide) (rfH eT (rf_59_0 hL)) ?_
    refine At_bipush (v := nI 42) (pc' := 151) iX11_singsTruly_149 rfl (by decide) ?_
    refine At_iload_n (pc' := 152) iX11_singsTruly_151 rfl rfl ?_
    refine At_iadd (pc' := 153) iX11_singsTruly_152 rfl ?_
    refine At_aload_n (pc' := 154) iX11_singsTruly_153 rfl rfl ?_
    refine At_getR (pc' := 157) iX11_singsTruly_154 rfl f_11_29 (kdK eT (kd_59 hL)) (by decide) (rfH eT (rf_59_17 hL)) ?_
    refine At_iload_n (pc' := 158) iX11_singsTruly_157 rfl rfl ?_
    obtain ⟨hn1, hv⟩ := hv
    refine At_iald (pc' := 159) iX11_singsTruly_158 rfl (kdH eT (kd_65 hL)) hn1 (show At (d + 3) MX11_singsTruly 159 [.ref 59, v1, .int x2, .int x3, v4, v5] [.int (gI h 65 x3.toNatClampNeg), .int ((nI 42) + x3), .ref 60] h Q from ?_)
    obtain ⟨hn2, hv⟩ := hv
    refine At_iast (pc' := 160) iX11_singsTruly_159 rfl (kdH eT (kd_60 hL)) hn2 (show At (d + 3) MX11_singsTruly 160 [.ref 59, v1, .int x2, .int x3, v4, v5] [] (sI h 60 (((nI 42) + x3).toNatClampNeg) (gI h 65 x3.toNatClampNeg)) Q from ?_)
    refine At_iinc (v := nI 1) (L' := [.ref 59, v1, .int x2, .int (x3 + nI 1), v4, v5]) (pc' := 163) iX11_singsTruly_160 rfl rfl (Nat.le_of_ble_eq_true rfl) (by decide) rfl ?_
    refine At_goto (t := 135) iX11_singsTruly_163 (by decide) ?_
    exact hv _ _ _
-- X1_singInThought (loop)
def L_X1_singInThought_3 (d : Nat) (a : Nat) (x1 : Nat) (x2 : Int64) (x4 : Int32) (x5 : Int32) (h : Hp) (Q : Option Value → Hp → Prop) : Prop := At (d + 4) MX1_singInThought 3 [.ref a, .ref x1, .long x2, un, .int x4, .int x5] [] h Q
set_option maxRecDepth 20000 in
theorem b_X1_singInThought {d : Nat} {T : HT} (hL : Lay T) {h : Hp} (eT : h.2.2 = T) (a : Nat) (x1 : Nat) (x2 : Int64) (x4 : Int32) (hA : IsX1 T a) (hA1 : IsX7 T x1) {Q : Option Value → Hp → Prop} (hv : L_X1_singInThought_3 d a x1 x2 x4 (nI 0) h Q) : Call (d + 4) MX1_singInThought [.ref a, .ref x1, .long x2, .int x4] h Q := by
  show At (d + 4) MX1_singInThought 0 [.ref a, .ref x1, .long x2, un, .int x4, un] [] h Q
  refine At_iconst (v := nI 0) (pc' := 1) iX1_singInThought_0 rfl (by decide) ?_
  refine At_istore (L' := [.ref a, .ref x1, .long x2, un, .int x4, .int (nI 0)]) (pc' := 3) iX1_singInThought_1 rfl (Nat.le_of_ble_eq_true rfl) rfl ?_
  exact hv
set_option maxRecDepth 20000 in
theorem b_X1_singInThought_3 {d : Nat} {T : HT} (hL : Lay T) {h : Hp} (eT : h.2.2 = T) (a : Nat) (x1 : Nat) (x2 : Int64) (x4 : Int32) (x5 : Int32) (hA : IsX1 T a) (hA1 : IsX7 T x1) {Q : Option Value → Hp → Prop} (hv : ((x5 < (gI h x1 0)) → ((inB x5 200 = true) ∧ (CallZ (d + 3) MX1_make [.ref a, .int (gI h (x1 + 1) x5.toNatClampNeg), .long x2, .int x4] h (fun r23 h23 => h23.2.2 = T ∧ (L_X1_singInThought_3 d a x1 x2 x4 (x5 + nI 1) h23 Q))))) ∧ (¬ (x5 < (gI h x1 0)) → (Q none h))) : L_X1_singInThought_3 d a x1 x2 x4 x5 h Q := by
  refine At_iload (pc' := 5) iX1_singInThought_3 rfl rfl ?_
  refine At_aload_n (pc' := 6) iX1_singInThought_5 rfl rfl ?_
  refine At_getI (pc' := 9) iX1_singInThought_6 rfl f_1_52 (kdK eT (X7_k0 hA1)) (by decide) ?_
  refine At_icmp_ge (t := 33) (pc' := 12) iX1_singInThought_9 (by decide) rfl (fun c9 => ?_) (fun c9 => ?_)
  · have hv := hv.2 c9
    exact At_retV iX1_singInThought_33 rfl hv
  · have hv := hv.1 c9
    refine At_aload_n (pc' := 13) iX1_singInThought_12 rfl rfl ?_
    refine At_aload_n (pc' := 14) iX1_singInThought_13 rfl rfl ?_
    refine At_getR (pc' := 17) iX1_singInThought_14 rfl f_1_57 (kdK eT (X7_k0 hA1)) (by decide) (rfH eT (X7_r1 hA1)) ?_
    refine At_iload (pc' := 19) iX1_singInThought_17 rfl rfl ?_
    obtain ⟨hn1, hv⟩ := hv
    refine At_iald (pc' := 20) iX1_singInThought_19 rfl (kdH eT (X7_k1 hA1)) hn1 (show At (d + 4) MX1_singInThought 20 [.ref a, .ref x1, .long x2, un, .int x4, .int x5] [.int (gI h (x1 + 1) x5.toNatClampNeg), .ref a] h Q from ?_)
    refine At_lload_n (pc' := 21) iX1_singInThought_20 rfl rfl ?_
    refine At_iload (pc' := 23) iX1_singInThought_21 rfl rfl ?_
    refine At_virt (pc' := 26) iX1_singInThought_23 rfl m_1_60 rfl rfl (kdK eT (X1_k0 hA)) (Nat.le_of_ble_eq_true rfl) (Nat.le_of_ble_eq_true rfl) ?_
    refine At.mono (show CallZ (d + 3) MX1_make [.ref a, .int (gI h (x1 + 1) x5.toNatClampNeg), .long x2, .int x4] h _ from hv) ?_
    rintro _ h23 ⟨r23, rfl, eT23, hv⟩
    show At (d + 4) MX1_singInThought 26 [.ref a, .ref x1, .long x2, un, .int x4, .int x5] [.int (b2i r23)] h23 Q
    refine At_pop (pc' := 27) iX1_singInThought_26 rfl rfl ?_
    refine At_iinc (v := nI 1) (L' := [.ref a, .ref x1, .long x2, un, .int x4, .int (x5 + nI 1)]) (pc' := 30) iX1_singInThought_27 rfl rfl (Nat.le_of_ble_eq_true rfl) (by decide) rfl ?_
    refine At_goto (t := 3) iX1_singInThought_30 (by decide) ?_
    exact hv
-- X3_firstOf (loop)
def L_X3_firstOf_3 (d : Nat) (x1 : Int32) (x2 : Int64) (x4 : Int64) (x6 : Int32) (x7 : Int32) (h : Hp) (Q : Option Value → Hp → Prop) : Prop := ∀ v8 : Value, At (d + 4) MX3_firstOf 3 [.ref 48, .int x1, .long x2, un, .long x4, un, .int x6, .int x7, v8] [] h Q
def L_X3_firstOf_13 (d : Nat) (x1 : Int32) (x2 : Int64) (x4 : Int64) (x6 : Int32) (x7 : Int32) (x8 : Int32) (h : Hp) (Q : Option Value → Hp → Prop) : Prop := At (d + 4) MX3_firstOf 13 [.ref 48, .int x1, .long x2, un, .long x4, un, .int x6, .int x7, .int x8] [] h Q
set_option maxRecDepth 20000 in
theorem b_X3_firstOf {d : Nat} {T : HT} (hL : Lay T) {h : Hp} (eT : h.2.2 = T) (x1 : Int32) (x2 : Int64) (x4 : Int64) (x6 : Int32)  {Q : Option Value → Hp → Prop} (hv : L_X3_firstOf_3 d x1 x2 x4 x6 (nI 0) h Q) : Call (d + 4) MX3_firstOf [.ref 48, .int x1, .long x2, .long x4, .int x6] h Q := by
  show At (d + 4) MX3_firstOf 0 [.ref 48, .int x1, .long x2, un, .long x4, un, .int x6, un, un] [] h Q
  refine At_iconst (v := nI 0) (pc' := 1) iX3_firstOf_0 rfl (by decide) ?_
  refine At_istore (L' := [.ref 48, .int x1, .long x2, un, .long x4, un, .int x6, .int (nI 0), un]) (pc' := 3) iX3_firstOf_1 rfl (Nat.le_of_ble_eq_true rfl) rfl ?_
  exact hv _
set_option maxRecDepth 20000 in
theorem b_X3_firstOf_3 {d : Nat} {T : HT} (hL : Lay T) {h : Hp} (eT : h.2.2 = T) (x1 : Int32) (x2 : Int64) (x4 : Int64) (x6 : Int32) (x7 : Int32)  {Q : Option Value → Hp → Prop} (hv : ((x7 < x6) → (L_X3_firstOf_13 d x1 x2 x4 x6 x7 (nI 0) h Q)) ∧ (¬ (x7 < x6) → (Q (some (.int (nI 0))) h))) : L_X3_firstOf_3 d x1 x2 x4 x6 x7 h Q := by
  intro v8
  refine At_iload (pc' := 5) iX3_firstOf_3 rfl rfl ?_
  refine At_iload (pc' := 7) iX3_firstOf_5 rfl rfl ?_
  refine At_icmp_ge (t := 64) (pc' := 10) iX3_firstOf_7 (by decide) rfl (fun c7 => ?_) (fun c7 => ?_)
  · have hv := hv.2 c7
    refine At_iconst (v := nI 0) (pc' := 65) iX3_firstOf_64 rfl (by decide) ?_
    exact At_retI iX3_firstOf_65 rfl hv
  · have hv := hv.1 c7
    refine At_iconst (v := nI 0) (pc' := 11) iX3_firstOf_10 rfl (by decide) ?_
    refine At_istore (L' := [.ref 48, .int x1, .long x2, un, .long x4, un, .int x6, .int x7, .int (nI 0)]) (pc' := 13) iX3_firstOf_11 rfl (Nat.le_of_ble_eq_true rfl) rfl ?_
    exact hv
set_option maxRecDepth 20000 in
theorem b_X3_firstOf_13 {d : Nat} {T : HT} (hL : Lay T) {h : Hp} (eT : h.2.2 = T) (x1 : Int32) (x2 : Int64) (x4 : Int64) (x6 : Int32) (x7 : Int32) (x8 : Int32)  {Q : Option Value → Hp → Prop} (hv : ((x8 < x6) → (CallI (d + 3) MX3_needed [.ref 48, .long (r_X6_lifted x2 x7 x8), .long x4, .int x6] h (fun r33 h33 => h33.2.2 = T ∧ (((r33 = (x1 - (nI 1))) → (Q (some (.int (r_X4_packed (nI 0) x7 x8 (-1)))) h33)) ∧ (¬ (r33 = (x1 - (nI 1))) → (L_X3_firstOf_13 d x1 x2 x4 x6 x7 (x8 + nI 1) h33 Q)))))) ∧ (¬ (x8 < x6) → (L_X3_firstOf_3 d x1 x2 x4 x6 (x7 + nI 1) h Q))) : L_X3_firstOf_13 d x1 x2 x4 x6 x7 x8 h Q := by
  refine At_iload (pc' := 15) iX3_firstOf_13 rfl rfl ?_
  refine At_iload (pc' := 17) iX3_firstOf_15 rfl rfl ?_
  refine At_icmp_ge (t := 58) (pc' := 20) iX3_firstOf_17 (by decide) rfl (fun c17 => ?_) (fun c17 => ?_)
  · have hv := hv.2 c17
    refine At_iinc (v := nI 1) (L' := [.ref 48, .int x1, .long x2, un, .long x4, un, .int x6, .int (x7 + nI 1), .int x8]) (pc' := 61) iX3_firstOf_58 rfl rfl (Nat.le_of_ble_eq_true rfl) (by decide) rfl ?_
    refine At_goto (t := 3) iX3_firstOf_61 (by decide) ?_
    exact hv _
  · have hv := hv.1 c17
    refine At_aload_n (pc' := 21) iX3_firstOf_20 rfl rfl ?_
    refine At_lload_n (pc' := 22) iX3_firstOf_21 rfl rfl ?_
    refine At_iload (pc' := 24) iX3_firstOf_22 rfl rfl ?_
    refine At_iload (pc' := 26) iX3_firstOf_24 rfl rfl ?_
    refine At_stat (pc' := 29) iX3_firstOf_26 rfl m_3_23 rfl rfl (Nat.le_of_ble_eq_true rfl) (Nat.le_of_ble_eq_true rfl) (Nat.le_of_ble_eq_true rfl) ?_
    refine c_X6_lifted (h := h) x2 x7 x8   (show At (d + 4) MX3_firstOf 29 [.ref 48, .int x1, .long x2, un, .long x4, un, .int x6, .int x7, .int x8] [.long (r_X6_lifted x2 x7 x8), .ref 48] h Q from ?_)
    refine At_lload (pc' := 31) iX3_firstOf_29 rfl rfl ?_
    refine At_iload (pc' := 33) iX3_firstOf_31 rfl rfl ?_
    refine At_virt (pc' := 36) iX3_firstOf_33 rfl m_3_29 rfl rfl (kdK eT (kd_48 hL)) (Nat.le_of_ble_eq_true rfl) (Nat.le_of_ble_eq_true rfl) ?_
    refine At.mono (show CallI (d + 3) MX3_needed [.ref 48, .long (r_X6_lifted x2 x7 x8), .long x4, .int x6] h _ from hv) ?_
    rintro _ h33 ⟨r33, rfl, eT33, hv⟩
    show At (d + 4) MX3_firstOf 36 [.ref 48, .int x1, .long x2, un, .long x4, un, .int x6, .int x7, .int x8] [.int r33] h33 Q
    refine At_iload_n (pc' := 37) iX3_firstOf_36 rfl rfl ?_
    refine At_iconst (v := nI 1) (pc' := 38) iX3_firstOf_37 rfl (by decide) ?_
    refine At_isub (pc' := 39) iX3_firstOf_38 rfl ?_
    refine At_icmp_ne (t := 52) (pc' := 42) iX3_firstOf_39 (by decide) rfl (fun c39 => ?_) (fun c39 => ?_)
    · have hv := hv.2 c39
      refine At_iinc (v := nI 1) (L' := [.ref 48, .int x1, .long x2, un, .long x4, un, .int x6, .int x7, .int (x8 + nI 1)]) (pc' := 55) iX3_firstOf_52 rfl rfl (Nat.le_of_ble_eq_true rfl) (by decide) rfl ?_
      refine At_goto (t := 13) iX3_firstOf_55 (by decide) ?_
      exact hv
    · have hv := hv.1 c39
      refine At_iconst (v := nI 0) (pc' := 43) iX3_firstOf_42 rfl (by decide) ?_
      refine At_iload (pc' := 45) iX3_firstOf_43 rfl rfl ?_
      refine At_iload (pc' := 47) iX3_firstOf_45 rfl rfl ?_
      refine At_iconst (v := (-1)) (pc' := 48) iX3_firstOf_47 rfl (by decide) ?_
      refine At_stat (pc' := 51) iX3_firstOf_48 rfl m_3_34 rfl rfl (Nat.le_of_ble_eq_true rfl) (Nat.le_of_ble_eq_true rfl) (Nat.le_of_ble_eq_true rfl) ?_
      refine c_X4_packed (h := h33) (nI 0) x7 x8 (-1)   (show At (d + 4) MX3_firstOf 51 [.ref 48, .int x1, .long x2, un, .long x4, un, .int x6, .int x7, .int x8] [.int (r_X4_packed (nI 0) x7 x8 (-1))] h33 Q from ?_)
      exact At_retI iX3_firstOf_51 rfl hv
-- X5_readLift (by choice)
set_option maxRecDepth 20000 in
theorem b_X5_readLift {d : Nat} {T : HT} (hL : Lay T) {h : Hp} (eT : h.2.2 = T)   {Q : Option Value → Hp → Prop} (hv : CallZ (d + 3) MX5_readNumber [.ref 2, .int (nI 0), .int ((gI h 2 4) - (nI 1))] h (fun r8 h8 => h8.2.2 = T ∧ (((r8 = true) → (CallZ (d + 3) MX5_readToken [.ref 2, .int (nI 7)] h8 (fun r24 h24 => h24.2.2 = T ∧ (((r24 = true) → (CallZ (d + 3) MX5_readNumber [.ref 2, .int (nI 0), .int ((gI h24 2 4) - (nI 1))] h24 (fun r38 h38 => h38.2.2 = T ∧ (((r38 = true) → (CallZ (d + 3) MX5_readAsked [.ref 2, .int (nI 0), .int (gI h8 2 7), .int (gI h38 2 7)] h38 (fun r53 h53 => h53.2.2 = T ∧ (Q (some (.int (b2i r53))) h53)))) ∧ (¬ (r38 = true) → (Q (some (.int (b2i false))) h38)))))) ∧ (¬ (r24 = true) → (Q (some (.int (b2i false))) h24)))))) ∧ (¬ (r8 = true) → (Q (some (.int (b2i false))) h8))))) : Call (d + 4) MX5_readLift [.ref 2] h Q := by
  show At (d + 4) MX5_readLift 0 [.ref 2, un] [] h Q
  refine At_aload_n (pc' := 1) iX5_readLift_0 rfl rfl ?_
  refine At_iconst (v := nI 0) (pc' := 2) iX5_readLift_1 rfl (by decide) ?_
  refine At_aload_n (pc' := 3) iX5_readLift_2 rfl rfl ?_
  refine At_getI (pc' := 6) iX5_readLift_3 rfl f_5_32 (kdK eT (kd_2 hL)) (by decide) ?_
  refine At_iconst (v := nI 1) (pc' := 7) iX5_readLift_6 rfl (by decide) ?_
  refine At_isub (pc' := 8) iX5_readLift_7 rfl ?_
  refine At_virt (pc' := 11) iX5_readLift_8 rfl m_5_105 rfl rfl (kdK eT (kd_2 hL)) (Nat.le_of_ble_eq_true rfl) (Nat.le_of_ble_eq_true rfl) ?_
  refine At.mono (show CallZ (d + 3) MX5_readNumber [.ref 2, .int (nI 0), .int ((gI h 2 4) - (nI 1))] h _ from hv) ?_
  rintro _ h8 ⟨r8, rfl, eT8, hv⟩
  show At (d + 4) MX5_readLift 11 [.ref 2, un] [.int (b2i r8)] h8 Q
  refine At_zne (t := 16) (pc' := 14) iX5_readLift_11 (by decide) rfl (fun c11 => ?_) (fun c11 => ?_)
  · have hv := hv.1 c11
    refine At_aload_n (pc' := 17) iX5_readLift_16 rfl rfl ?_
    refine At_getI (pc' := 20) iX5_readLift_17 rfl f_5_41 (kdK eT8 (kd_2 hL)) (by decide) ?_
    refine At_istore_n (L' := [.ref 2, .int (gI h8 2 7)]) (pc' := 21) iX5_readLift_20 rfl (Nat.le_of_ble_eq_true rfl) rfl ?_
    refine At_aload_n (pc' := 22) iX5_readLift_21 rfl rfl ?_
    refine At_bipush (v := nI 7) (pc' := 24) iX5_readLift_22 rfl (by decide) ?_
    refine At_virt (pc' := 27) iX5_readLift_24 rfl m_5_102 rfl rfl (kdK eT8 (kd_2 hL)) (Nat.le_of_ble_eq_true rfl) (Nat.le_of_ble_eq_true rfl) ?_
    refine At.mono (show CallZ (d + 3) MX5_readToken [.ref 2, .int (nI 7)] h8 _ from hv) ?_
    rintro _ h24 ⟨r24, rfl, eT24, hv⟩
    show At (d + 4) MX5_readLift 27 [.ref 2, .int (gI h8 2 7)] [.int (b2i r24)] h24 Q
    refine At_zeq (t := 44) (pc' := 30) iX5_readLift_27 (by decide) rfl (fun c27 => ?_) (fun c27 => ?_)
    · have hv := hv.2 c27
      refine At_iconst (v := nI 0) (pc' := 45) iX5_readLift_44 rfl (by decide) ?_
      exact At_retF iX5_readLift_45 rfl hv
    · have hv := hv.1 c27
      refine At_aload_n (pc' := 31) iX5_readLift_30 rfl rfl ?_
      refine At_iconst (v := nI 0) (pc' := 32) iX5_readLift_31 rfl (by decide) ?_
      refine At_aload_n (pc' := 33) iX5_readLift_32 rfl rfl ?_
      refine At_getI (pc' := 36) iX5_readLift_33 rfl f_5_32 (kdK eT24 (kd_2 hL)) (by decide) ?_
      refine At_iconst (v := nI 1) (pc' := 37) iX5_readLift_36 rfl (by decide) ?_
      refine At_isub (pc' := 38) iX5_readLift_37 rfl ?_
      refine At_virt (pc' := 41) iX5_readLift_38 rfl m_5_105 rfl rfl (kdK eT24 (kd_2 hL)) (Nat.le_of_ble_eq_true rfl) (Nat.le_of_ble_eq_true rfl) ?_
      refine At.mono (show CallZ (d + 3) MX5_readNumber [.ref 2, .int (nI 0), .int ((gI h24 2 4) - (nI 1))] h24 _ from hv) ?_
      rintro _ h38 ⟨r38, rfl, eT38, hv⟩
      show At (d + 4) MX5_readLift 41 [.ref 2, .int (gI h8 2 7)] [.int (b2i r38)] h38 Q
      refine At_zne (t := 46) (pc' := 44) iX5_readLift_41 (by decide) rfl (fun c41 => ?_) (fun c41 => ?_)
      · have hv := hv.1 c41
        refine At_aload_n (pc' := 47) iX5_readLift_46 rfl rfl ?_
        refine At_iconst (v := nI 0) (pc' := 48) iX5_readLift_47 rfl (by decide) ?_
        refine At_iload_n (pc' := 49) iX5_readLift_48 rfl rfl ?_
        refine At_aload_n (pc' := 50) iX5_readLift_49 rfl rfl ?_
        refine At_getI (pc' := 53) iX5_readLift_50 rfl f_5_41 (kdK eT38 (kd_2 hL)) (by decide) ?_
        refine At_virt (pc' := 56) iX5_readLift_53 rfl m_5_111 rfl rfl (kdK eT38 (kd_2 hL)) (Nat.le_of_ble_eq_true rfl) (Nat.le_of_ble_eq_true rfl) ?_
        refine At.mono (show CallZ (d + 3) MX5_readAsked [.ref 2, .int (nI 0), .int (gI h8 2 7), .int (gI h38 2 7)] h38 _ from hv) ?_
        rintro _ h53 ⟨r53, rfl, eT53, hv⟩
        show At (d + 4) MX5_readLift 56 [.ref 2, .int (gI h8 2 7)] [.int (b2i r53)] h53 Q
        exact At_retZ iX5_readLift_56 rfl (b2i_01 _) hv
      · have hv := hv.2 c41
        refine At_iconst (v := nI 0) (pc' := 45) iX5_readLift_44 rfl (by decide) ?_
        exact At_retF iX5_readLift_45 rfl hv
  · have hv := hv.2 c11
    refine At_iconst (v := nI 0) (pc' := 15) iX5_readLift_14 rfl (by decide) ?_
    exact At_retF iX5_readLift_15 rfl hv
-- X5_readSwap (by choice)
set_option maxRecDepth 20000 in
theorem b_X5_readSwap {d : Nat} {T : HT} (hL : Lay T) {h : Hp} (eT : h.2.2 = T)   {Q : Option Value → Hp → Prop} (hv : CallZ (d + 3) MX5_readNumber [.ref 2, .int (nI 0), .int ((gI h 2 4) - (nI 1))] h (fun r8 h8 => h8.2.2 = T ∧ (((r8 = true) → (CallZ (d + 3) MX5_readNumber [.ref 2, .int (nI 0), .int ((gI h8 2 4) - (nI 1))] h8 (fun r29 h29 => h29.2.2 = T ∧ (((r29 = true) → (CallZ (d + 3) MX5_readAsked [.ref 2, .int (nI 1), .int (gI h8 2 7), .int (gI h29 2 7)] h29 (fun r42 h42 => h42.2.2 = T ∧ (((r42 = true) → (Q (some (.int (b2i true))) h42)) ∧ (¬ (r42 = true) → (Q (some (.int (b2i false))) h42)))))) ∧ (¬ (r29 = true) → (Q (some (.int (b2i false))) h29)))))) ∧ (¬ (r8 = true) → (Q (some (.int (b2i false))) h8))))) : Call (d + 4) MX5_readSwap [.ref 2] h Q := by
  show At (d + 4) MX5_readSwap 0 [.ref 2, un] [] h Q
  refine At_aload_n (pc' := 1) iX5_readSwap_0 rfl rfl ?_
  refine At_iconst (v := nI 0) (pc' := 2) iX5_readSwap_1 rfl (by decide) ?_
  refine At_aload_n (pc' := 3) iX5_readSwap_2 rfl rfl ?_
  refine At_getI (pc' := 6) iX5_readSwap_3 rfl f_5_32 (kdK eT (kd_2 hL)) (by decide) ?_
  refine At_iconst (v := nI 1) (pc' := 7) iX5_readSwap_6 rfl (by decide) ?_
  refine At_isub (pc' := 8) iX5_readSwap_7 rfl ?_
  refine At_virt (pc' := 11) iX5_readSwap_8 rfl m_5_105 rfl rfl (kdK eT (kd_2 hL)) (Nat.le_of_ble_eq_true rfl) (Nat.le_of_ble_eq_true rfl) ?_
  refine At.mono (show CallZ (d + 3) MX5_readNumber [.ref 2, .int (nI 0), .int ((gI h 2 4) - (nI 1))] h _ from hv) ?_
  rintro _ h8 ⟨r8, rfl, eT8, hv⟩
  show At (d + 4) MX5_readSwap 11 [.ref 2, un] [.int (b2i r8)] h8 Q
  refine At_zne (t := 16) (pc' := 14) iX5_readSwap_11 (by decide) rfl (fun c11 => ?_) (fun c11 => ?_)
  · have hv := hv.1 c11
    refine At_aload_n (pc' := 17) iX5_readSwap_16 rfl rfl ?_
    refine At_getI (pc' := 20) iX5_readSwap_17 rfl f_5_41 (kdK eT8 (kd_2 hL)) (by decide) ?_
    refine At_istore_n (L' := [.ref 2, .int (gI h8 2 7)]) (pc' := 21) iX5_readSwap_20 rfl (Nat.le_of_ble_eq_true rfl) rfl ?_
    refine At_aload_n (pc' := 22) iX5_readSwap_21 rfl rfl ?_
    refine At_iconst (v := nI 0) (pc' := 23) iX5_readSwap_22 rfl (by decide) ?_
    refine At_aload_n (pc' := 24) iX5_readSwap_23 rfl rfl ?_
    refine At_getI (pc' := 27) iX5_readSwap_24 rfl f_5_32 (kdK eT8 (kd_2 hL)) (by decide) ?_
    refine At_iconst (v := nI 1) (pc' := 28) iX5_readSwap_27 rfl (by decide) ?_
    refine At_isub (pc' := 29) iX5_readSwap_28 rfl ?_
    refine At_virt (pc' := 32) iX5_readSwap_29 rfl m_5_105 rfl rfl (kdK eT8 (kd_2 hL)) (Nat.le_of_ble_eq_true rfl) (Nat.le_of_ble_eq_true rfl) ?_
    refine At.mono (show CallZ (d + 3) MX5_readNumber [.ref 2, .int (nI 0), .int ((gI h8 2 4) - (nI 1))] h8 _ from hv) ?_
    rintro _ h29 ⟨r29, rfl, eT29, hv⟩
    show At (d + 4) MX5_readSwap 32 [.ref 2, .int (gI h8 2 7)] [.int (b2i r29)] h29 Q
    refine At_zeq (t := 52) (pc' := 35) iX5_readSwap_32 (by decide) rfl (fun c32 => ?_) (fun c32 => ?_)
    · have hv := hv.2 c32
      refine At_iconst (v := nI 0) (pc' := 53) iX5_readSwap_52 rfl (by decide) ?_
      exact At_retF iX5_readSwap_53 rfl hv
    · have hv := hv.1 c32
      refine At_aload_n (pc' := 36) iX5_readSwap_35 rfl rfl ?_
      refine At_iconst (v := nI 1) (pc' := 37) iX5_readSwap_36 rfl (by decide) ?_
      refine At_iload_n (pc' := 38) iX5_readSwap_37 rfl rfl ?_
      refine At_aload_n (pc' := 39) iX5_readSwap_38 rfl rfl ?_
      refine At_getI (pc' := 42) iX5_readSwap_39 rfl f_5_41 (kdK eT29 (kd_2 hL)) (by decide) ?_
      refine At_virt (pc' := 45) iX5_readSwap_42 rfl m_5_111 rfl rfl (kdK eT29 (kd_2 hL)) (Nat.le_of_ble_eq_true rfl) (Nat.le_of_ble_eq_true rfl) ?_
      refine At.mono (show CallZ (d + 3) MX5_readAsked [.ref 2, .int (nI 1), .int (gI h8 2 7), .int (gI h29 2 7)] h29 _ from hv) ?_
      rintro _ h42 ⟨r42, rfl, eT42, hv⟩
      show At (d + 4) MX5_readSwap 45 [.ref 2, .int (gI h8 2 7)] [.int (b2i r42)] h42 Q
      refine At_zeq (t := 52) (pc' := 48) iX5_readSwap_45 (by decide) rfl (fun c45 => ?_) (fun c45 => ?_)
      · have hv := hv.2 c45
        refine At_iconst (v := nI 0) (pc' := 53) iX5_readSwap_52 rfl (by decide) ?_
        exact At_retF iX5_readSwap_53 rfl hv
      · have hv := hv.1 c45
        refine At_iconst (v := nI 1) (pc' := 49) iX5_readSwap_48 rfl (by decide) ?_
        refine At_goto (t := 53) iX5_readSwap_49 (by decide) ?_
        exact At_retT iX5_readSwap_53 rfl hv
  · have hv := hv.2 c11
    refine At_iconst (v := nI 0) (pc' := 15) iX5_readSwap_14 rfl (by decide) ?_
    exact At_retF iX5_readSwap_15 rfl hv
-- X7_singingsBack (loop)
def L_X7_singingsBack_9 (d : Nat) (a : Nat) (x1 : Int64) (x3 : Int64) (x5 : Int32) (x6 : Int64) (x8 : Int64) (x10 : Int32) (h : Hp) (Q : Option Value → Hp → Prop) : Prop := At (d + 4) MX7_singingsBack 9 [.ref a, .long x1, un, .long x3, un, .int x5, .long x6, un, .long x8, un, .int x10] [] h Q
set_option maxRecDepth 20000 in
theorem b_X7_singingsBack {d : Nat} {T : HT} (hL : Lay T) {h : Hp} (eT : h.2.2 = T) (a : Nat) (x1 : Int64) (x3 : Int64) (x5 : Int32) (hA : IsX7 T a) {Q : Option Value → Hp → Prop} (hv : L_X7_singingsBack_9 d a x1 x3 x5 x1 x1 (nI 1) h Q) : Call (d + 4) MX7_singingsBack [.ref a, .long x1, .long x3, .int x5] h Q := by
  show At (d + 4) MX7_singingsBack 0 [.ref a, .long x1, un, .long x3, un, .int x5, un, un, un, un, un] [] h Q
  refine At_lload_n (pc' := 1) iX7_singingsBack_0 rfl rfl ?_
  refine At_lstore (L' := [.ref a, .long x1, un, .long x3, un, .int x5, .long x1, un, un, un, un]) (pc' := 3) iX7_singingsBack_1 rfl (Nat.le_of_ble_eq_true rfl) rfl ?_
  refine At_lload_n (pc' := 4) iX7_singingsBack_3 rfl rfl ?_
  refine At_lstore (L' := [.ref a, .long x1, un, .long x3, un, .int x5, .long x1, un, .long x1, un, un]) (pc' := 6) iX7_singingsBack_4 rfl (Nat.le_of_ble_eq_true rfl) rfl ?_
  refine At_iconst (v := nI 1) (pc' := 7) iX7_singingsBack_6 rfl (by decide) ?_
  refine At_istore (L' := [.ref a, .long x1, un, .long x3, un, .int x5, .long x1, un, .long x1, un, .int (nI 1)]) (pc' := 9) iX7_singingsBack_7 rfl (Nat.le_of_ble_eq_true rfl) rfl ?_
  exact hv
set_option maxRecDepth 20000 in
theorem b_X7_singingsBack_9 {d : Nat} {T : HT} (hL : Lay T) {h : Hp} (eT : h.2.2 = T) (a : Nat) (x1 : Int64) (x3 : Int64) (x5 : Int32) (x6 : Int64) (x8 : Int64) (x10 : Int32) (hA : IsX7 T a) {Q : Option Value → Hp → Prop} (hv : (((nI 5040) < x10) → (Q (some (.int (-1))) h)) ∧ (¬ ((nI 5040) < x10) → (CallJ (d + 3) MX7_sungFrom [.ref a, .long x6, .long x3, .int x5, .int (-1)] h (fun r24 h24 => h24.2.2 = T ∧ ((((lg_cmp r24 x1) = 0) → (Q (some (.int x10)) h24)) ∧ (¬ ((lg_cmp r24 x1) = 0) → ((((lg_cmp r24 x8) = 0) → (Q (some (.int (-1))) h24)) ∧ (¬ ((lg_cmp r24 x8) = 0) → ((((r_J6_bitCount_0f7a4 x10) = (nI 1)) → (L_X7_singingsBack_9 d a x1 x3 x5 r24 r24 (x10 + nI 1) h24 Q)) ∧ (¬ ((r_J6_bitCount_0f7a4 x10) = (nI 1)) → (L_X7_singingsBack_9 d a x1 x3 x5 r24 x8 (x10 + nI 1) h24 Q))))))))))) : L_X7_singingsBack_9 d a x1 x3 x5 x6 x8 x10 h Q := by
  refine At_iload (pc' := 11) iX7_singingsBack_9 rfl rfl ?_
  refine At_sipush (v := nI 5040) (pc' := 14) iX7_singingsBack_11 rfl (by decide) ?_
  refine At_icmp_gt (t := 68) (pc' := 17) iX7_singingsBack_14 (by decide) rfl (fun c14 => ?_) (fun c14 => ?_)
  · have hv := hv.1 c14
    refine At_iconst (v := (-1)) (pc' := 69) iX7_singingsBack_68 rfl (by decide) ?_
    exact At_retI iX7_singingsBack_69 rfl hv
  · have hv := hv.2 c14
    refine At_aload_n (pc' := 18) iX7_singingsBack_17 rfl rfl ?_
    refine At_lload (pc' := 20) iX7_singingsBack_18 rfl rfl ?_
    refine At_lload_n (pc' := 21) iX7_singingsBack_20 rfl rfl ?_
    refine At_iload (pc' := 23) iX7_singingsBack_21 rfl rfl ?_
    refine At_iconst (v := (-1)) (pc' := 24) iX7_singingsBack_23 rfl (by decide) ?_
    refine At_virt (pc' := 27) iX7_singingsBack_24 rfl m_7_49 rfl rfl (kdK eT (X7_k0 hA)) (Nat.le_of_ble_eq_true rfl) (Nat.le_of_ble_eq_true rfl) ?_
    refine At.mono (show CallJ (d + 3) MX7_sungFrom [.ref a, .long x6, .long x3, .int x5, .int (-1)] h _ from hv) ?_
    rintro _ h24 ⟨r24, rfl, eT24, hv⟩
    show At (d + 4) MX7_singingsBack 27 [.ref a, .long x1, un, .long x3, un, .int x5, .long x6, un, .long x8, un, .int x10] [.long r24] h24 Q
    refine At_lstore (L' := [.ref a, .long x1, un, .long x3, un, .int x5, .long r24, un, .long x8, un, .int x10]) (pc' := 29) iX7_singingsBack_27 rfl (Nat.le_of_ble_eq_true rfl) rfl ?_
    refine At_lload (pc' := 31) iX7_singingsBack_29 rfl rfl ?_
    refine At_lload_n (pc' := 32) iX7_singingsBack_31 rfl rfl ?_
    refine At_lcmp (pc' := 33) iX7_singingsBack_32 rfl ?_
    refine At_if_ne (t := 39) (pc' := 36) iX7_singingsBack_33 (by decide) rfl (fun c33 => ?_) (fun c33 => ?_)
    · have hv := hv.2 c33
      refine At_lload (pc' := 41) iX7_singingsBack_39 rfl rfl ?_
      refine At_lload (pc' := 43) iX7_singingsBack_41 rfl rfl ?_
      refine At_lcmp (pc' := 44) iX7_singingsBack_43 rfl ?_
      refine At_if_ne (t := 49) (pc' := 47) iX7_singingsBack_44 (by decide) rfl (fun c44 => ?_) (fun c44 => ?_)
      · have hv := hv.2 c44
        refine At_iload (pc' := 51) iX7_singingsBack_49 rfl rfl ?_
        refine At_stat (pc' := 54) iX7_singingsBack_51 rfl m_7_53 rfl rfl (Nat.le_of_ble_eq_true rfl) (Nat.le_of_ble_eq_true rfl) (Nat.le_of_ble_eq_true rfl) ?_
        refine c_J6_bitCount_0f7a4 (h := h24) x10   (show At (d + 4) MX7_singingsBack 54 [.ref a, .long x1, un, .long x3, un, .int x5, .long r24, un, .long x8, un, .int x10] [.int (r_J6_bitCount_0f7a4 x10)] h24 Q from ?_)
        refine At_iconst (v := nI 1) (pc' := 55) iX7_singingsBack_54 rfl (by decide) ?_
        refine At_icmp_ne (t := 62) (pc' := 58) iX7_singingsBack_55 (by decide) rfl (fun c55 => ?_) (fun c55 => ?_)
        · have hv := hv.2 c55
          refine At_iinc (v := nI 1) (L' := [.ref a, .long x1, un, .long x3, un, .int x5, .long r24, un, .long x8, un, .int (x10 + nI 1)]) (pc' := 65) iX7_singingsBack_62 rfl rfl (Nat.le_of_ble_eq_true rfl) (by decide) rfl ?_
          refine At_goto (t := 9) iX7_singingsBack_65 (by decide) ?_
          exact hv
        · have hv := hv.1 c55
          refine At_lload (pc' := 60) iX7_singingsBack_58 rfl rfl ?_
          refine At_lstore (L' := [.ref a, .long x1, un, .long x3, un, .int x5, .long r24, un, .long r24, un, .int x10]) (pc' := 62) iX7_singingsBack_60 rfl (Nat.le_of_ble_eq_true rfl) rfl ?_
          refine At_iinc (v := nI 1) (L' := [.ref a, .long x1, un, .long x3, un, .int x5, .long r24, un, .long r24, un, .int (x10 + nI 1)]) (pc' := 65) iX7_singingsBack_62 rfl rfl (Nat.le_of_ble_eq_true rfl) (by decide) rfl ?_
          refine At_goto (t := 9) iX7_singingsBack_65 (by decide) ?_
          exact hv
      · have hv := hv.1 c44
        refine At_iconst (v := (-1)) (pc' := 48) iX7_singingsBack_47 rfl (by decide) ?_
        exact At_retI iX7_singingsBack_48 rfl hv
    · have hv := hv.1 c33
      refine At_iload (pc' := 38) iX7_singingsBack_36 rfl rfl ?_
      exact At_retI iX7_singingsBack_38 rfl hv
-- X8_singOnce (loop)
def L_X8_singOnce_4 (d : Nat) (a : Nat) (x1 : Nat) (x2 : Int32) (x3 : Int32) (h : Hp) (Q : Option Value → Hp → Prop) : Prop := ∀ v4 v5 v6 : Value, At (d + 4) MX8_singOnce 4 [.ref a, .ref x1, .int x2, .int x3, v4, v5, v6] [] h Q
set_option maxRecDepth 20000 in
theorem b_X8_singOnce {d : Nat} {T : HT} (hL : Lay T) {h : Hp} (eT : h.2.2 = T) (a : Nat) (x1 : Nat) (hA : IsX8 T a) (hA1 : IsX7 T x1) {Q : Option Value → Hp → Prop} (hv : L_X8_singOnce_4 d a x1 (nI 0) (nI 0) h Q) : Call (d + 4) MX8_singOnce [.ref a, .ref x1] h Q := by
  show At (d + 4) MX8_singOnce 0 [.ref a, .ref x1, un, un, un, un, un] [] h Q
  refine At_iconst (v := nI 0) (pc' := 1) iX8_singOnce_0 rfl (by decide) ?_
  refine At_istore_n (L' := [.ref a, .ref x1, .int (nI 0), un, un, un, un]) (pc' := 2) iX8_singOnce_1 rfl (Nat.le_of_ble_eq_true rfl) rfl ?_
  refine At_iconst (v := nI 0) (pc' := 3) iX8_singOnce_2 rfl (by decide) ?_
  refine At_istore_n (L' := [.ref a, .ref x1, .int (nI 0), .int (nI 0), un, un, un]) (pc' := 4) iX8_singOnce_3 rfl (Nat.le_of_ble_eq_true rfl) rfl ?_
  exact hv _ _ _
set_option maxRecDepth 20000 in
theorem b_X8_singOnce_4 {d : Nat} {T : HT} (hL : Lay T) {h : Hp} (eT : h.2.2 = T) (a : Nat) (x1 : Nat) (x2 : Int32) (x3 : Int32) (hA : IsX8 T a) (hA1 : IsX7 T x1) {Q : Option Value → Hp → Prop} (hv : ((x3 < (gI h x1 0)) → ((inB x3 200 = true) ∧ ((((r_X4_isTurn (gI h (x1 + 1) x3.toNatClampNeg)) = true) → ((((nI 0) = 0) → (CallZ (d + 3) MX1_make [.ref (a + 3), .int (gI h (x1 + 1) x3.toNatClampNeg), .long (gJ h a 2), .int (gI h a 0)] h (fun r95 h95 => h95.2.2 = T ∧ (((r95 = true) → ((p_X8_addRow a (r_X6_get (gJ h (a + 3) 0) (r_X4_from (gI h (x1 + 1) x3.toNatClampNeg))) h95) ∧ (L_X8_singOnce_4 d a x1 (x2 + nI 1) (x3 + nI 1) (w_X8_addRow a (r_X6_get (gJ h (a + 3) 0) (r_X4_from (gI h (x1 + 1) x3.toNatClampNeg))) h95) Q))) ∧ (¬ (r95 = true) → (L_X8_singOnce_4 d a x1 x2 (x3 + nI 1) h95 Q)))))) ∧ (¬ ((nI 0) = 0) → (L_X8_singOnce_4 d a x1 x2 (x3 + nI 1) h Q)))) ∧ (¬ ((r_X4_isTurn (gI h (x1 + 1) x3.toNatClampNeg)) = true) → (((0 < (gI h a 1)) → ((p_X1_draw (a + 3) (nI 1000) h) ∧ ((((r_X1_draw (a + 3) (nI 1000) h) < (gI (w_X1_draw (a + 3) (nI 1000) h) a 1)) → ((((nI 1) = 0) → (CallZ (d + 3) MX1_make [.ref (a + 3), .int (gI h (x1 + 1) x3.toNatClampNeg), .long (gJ (w_X1_draw (a + 3) (nI 1000) h) a 2), .int (gI (w_X1_draw (a + 3) (nI 1000) h) a 0)] (w_X1_draw (a + 3) (nI 1000) h) (fun r95 h95 => h95.2.2 = T ∧ (((r95 = true) → ((p_X8_addRow a (r_X6_get (gJ h (a + 3) 0) (r_X4_from (gI h (x1 + 1) x3.toNatClampNeg))) h95) ∧ (L_X8_singOnce_4 d a x1 (x2 + nI 1) (x3 + nI 1) (w_X8_addRow a (r_X6_get (gJ h (a + 3) 0) (r_X4_from (gI h (x1 + 1) x3.toNatClampNeg))) h95) Q))) ∧ (¬ (r95 = true) → (L_X8_singOnce_4 d a x1 x2 (x3 + nI 1) h95 Q)))))) ∧ (¬ ((nI 1) = 0) → (L_X8_singOnce_4 d a x1 x2 (x3 + nI 1) (w_X1_draw (a + 3) (nI 1000) h) Q)))) ∧ (¬ ((r_X1_draw (a + 3) (nI 1000) h) < (gI (w_X1_draw (a + 3) (nI 1000) h) a 1)) → ((((nI 0) = 0) → (CallZ (d + 3) MX1_make [.ref (a + 3), .int (gI h (x1 + 1) x3.toNatClampNeg), .long (gJ (w_X1_draw (a + 3) (nI 1000) h) a 2), .int (gI (w_X1_draw (a + 3) (nI 1000) h) a 0)] (w_X1_draw (a + 3) (nI 1000) h) (fun r95 h95 => h95.2.2 = T ∧ (((r95 = true) → ((p_X8_addRow a (r_X6_get (gJ h (a + 3) 0) (r_X4_from (gI h (x1 + 1) x3.toNatClampNeg))) h95) ∧ (L_X8_singOnce_4 d a x1 (x2 + nI 1) (x3 + nI 1) (w_X8_addRow a (r_X6_get (gJ h (a + 3) 0) (r_X4_from (gI h (x1 + 1) x3.toNatClampNeg))) h95) Q))) ∧ (¬ (r95 = true) → (L_X8_singOnce_4 d a x1 x2 (x3 + nI 1) h95 Q)))))) ∧ (¬ ((nI 0) = 0) → (L_X8_singOnce_4 d a x1 x2 (x3 + nI 1) (w_X1_draw (a + 3) (nI 1000) h) Q))))))) ∧ (¬ (0 < (gI h a 1)) → ((((nI 0) = 0) → (CallZ (d + 3) MX1_make [.ref (a + 3), .int (gI h (x1 + 1) x3.toNatClampNeg), .long (gJ h a 2), .int (gI h a 0)] h (fun r95 h95 => h95.2.2 = T ∧ (((r95 = true) → ((p_X8_addRow a (r_X6_get (gJ h (a + 3) 0) (r_X4_from (gI h (x1 + 1) x3.toNatClampNeg))) h95) ∧ (L_X8_singOnce_4 d a x1 (x2 + nI 1) (x3 + nI 1) (w_X8_addRow a (r_X6_get (gJ h (a + 3) 0) (r_X4_from (gI h (x1 + 1) x3.toNatClampNeg))) h95) Q))) ∧ (¬ (r95 = true) → (L_X8_singOnce_4 d a x1 x2 (x3 + nI 1) h95 Q)))))) ∧ (¬ ((nI 0) = 0) → (L_X8_singOnce_4 d a x1 x2 (x3 + nI 1) h Q))))))))) ∧ (¬ (x3 < (gI h x1 0)) → (Q (some (.int x2)) h))) : L_X8_singOnce_4 d a x1 x2 x3 h Q := by
  intro v4 v5 v6
  refine At_iload_n (pc' := 5) iX8_singOnce_4 rfl rfl ?_
  refine At_aload_n (pc' := 6) iX8_singOnce_5 rfl rfl ?_
  refine At_getI (pc' := 9) iX8_singOnce_6 rfl f_8_55 (kdK eT (X7_k0 hA1)) (by decide) ?_
  refine At_icmp_ge (t := 116) (pc' := 12) iX8_singOnce_9 (by decide) rfl (fun c9 => ?_) (fun c9 => ?_)
  · have hv := hv.2 c9
    refine At_iload_n (pc' := 117) iX8_singOnce_116 rfl rfl ?_
    exact At_retI iX8_singOnce_117 rfl hv
  · have hv := hv.1 c9
    refine At_aload_n (pc' := 13) iX8_singOnce_12 rfl rfl ?_
    refine At_getR (pc' := 16) iX8_singOnce_13 rfl f_8_85 (kdK eT (X7_k0 hA1)) (by decide) (rfH eT (X7_r1 hA1)) ?_
    refine At_iload_n (pc' := 17) iX8_singOnce_16 rfl rfl ?_
    obtain ⟨hn1, hv⟩ := hv
    refine At_iald (pc' := 18) iX8_singOnce_17 rfl (kdH eT (X7_k1 hA1)) hn1 (show At (d + 4) MX8_singOnce 18 [.ref a, .ref x1, .int x2, .int x3, v4, v5, v6] [.int (gI h (x1 + 1) x3.toNatClampNeg)] h Q from ?_)
    refine At_istore (L' := [.ref a, .ref x1, .int x2, .int x3, .int (gI h (x1 + 1) x3.toNatClampNeg), v5, v6]) (pc' := 20) iX8_singOnce_18 rfl (Nat.le_of_ble_eq_true rfl) rfl ?_
    refine At_aload_n (pc' := 21) iX8_singOnce_20 rfl rfl ?_
    refine At_getR (pc' := 24) iX8_singOnce_21 rfl f_8_38 (kdK eT (X8_k0 hA)) (by decide) (rfH eT (X8_r6 hA)) ?_
    refine At_getJ (pc' := 27) iX8_singOnce_24 rfl f_8_88 (kdK eT (X1_k0 (X8_cord hA))) (by decide) ?_
    refine At_iload (pc' := 29) iX8_singOnce_27 rfl rfl ?_
    refine At_stat (pc' := 32) iX8_singOnce_29 rfl m_8_91 rfl rfl (Nat.le_of_ble_eq_true rfl) (Nat.le_of_ble_eq_true rfl) (Nat.le_of_ble_eq_true rfl) ?_
    refine c_X4_from (h := h) (gI h (x1 + 1) x3.toNatClampNeg)   (show At (d + 4) MX8_singOnce 32 [.ref a, .ref x1, .int x2, .int x3, .int (gI h (x1 + 1) x3.toNatClampNeg), v5, v6] [.int (r_X4_from (gI h (x1 + 1) x3.toNatClampNeg)), .long (gJ h (a + 3) 0)] h Q from ?_)
    refine At_stat (pc' := 35) iX8_singOnce_32 rfl m_8_75 rfl rfl (Nat.le_of_ble_eq_true rfl) (Nat.le_of_ble_eq_true rfl) (Nat.le_of_ble_eq_true rfl) ?_
    refine c_X6_get (h := h) (gJ h (a + 3) 0) (r_X4_from (gI h (x1 + 1) x3.toNatClampNeg))   (show At (d + 4) MX8_singOnce 35 [.ref a, .ref x1, .int x2, .int x3, .int (gI h (x1 + 1) x3.toNatClampNeg), v5, v6] [.int (r_X6_get (gJ h (a + 3) 0) (r_X4_from (gI h (x1 + 1) x3.toNatClampNeg)))] h Q from ?_)
    refine At_istore (L' := [.ref a, .ref x1, .int x2, .int x3, .int (gI h (x1 + 1) x3.toNatClampNeg), .int (r_X6_get (gJ h (a + 3) 0) (r_X4_from (gI h (x1 + 1) x3.toNatClampNeg))), v6]) (pc' := 37) iX8_singOnce_35 rfl (Nat.le_of_ble_eq_true rfl) rfl ?_
    refine At_iload (pc' := 39) iX8_singOnce_37 rfl rfl ?_
    refine At_stat (pc' := 42) iX8_singOnce_39 rfl m_8_97 rfl rfl (Nat.le_of_ble_eq_true rfl) (Nat.le_of_ble_eq_true rfl) (Nat.le_of_ble_eq_true rfl) ?_
    refine c_X4_isTurn (h := h) (gI h (x1 + 1) x3.toNatClampNeg)   (show At (d + 4) MX8_singOnce 42 [.ref a, .ref x1, .int x2, .int x3, .int (gI h (x1 + 1) x3.toNatClampNeg), .int (r_X6_get (gJ h (a + 3) 0) (r_X4_from (gI h (x1 + 1) x3.toNatClampNeg))), v6] [.int (b2i (r_X4_isTurn (gI h (x1 + 1) x3.toNatClampNeg)))] h Q from ?_)
    refine At_zne (t := 73) (pc' := 45) iX8_singOnce_42 (by decide) rfl (fun c42 => ?_) (fun c42 => ?_)
    · have hv := hv.1 c42
      refine At_iconst (v := nI 0) (pc' := 74) iX8_singOnce_73 rfl (by decide) ?_
      refine At_istore (L' := [.ref a, .ref x1, .int x2, .int x3, .int (gI h (x1 + 1) x3.toNatClampNeg), .int (r_X6_get (gJ h (a + 3) 0) (r_X4_from (gI h (x1 + 1) x3.toNatClampNeg))), .int (nI 0)]) (pc' := 76) iX8_singOnce_74 rfl (Nat.le_of_ble_eq_true rfl) rfl ?_
      refine At_iload (pc' := 78) iX8_singOnce_76 rfl rfl ?_
      refine At_if_ne (t := 110) (pc' := 81) iX8_singOnce_78 (by decide) rfl (fun c78 => ?_) (fun c78 => ?_)
      · have hv := hv.2 c78
        refine At_iinc (v := nI 1) (L' := [.ref a, .ref x1, .int x2, .int (x3 + nI 1), .int (gI h (x1 + 1) x3.toNatClampNeg), .int (r_X6_get (gJ h (a + 3) 0) (r_X4_from (gI h (x1 + 1) x3.toNatClampNeg))), .int (nI 0)]) (pc' := 113) iX8_singOnce_110 rfl rfl (Nat.le_of_ble_eq_true rfl) (by decide) rfl ?_
        refine At_goto (t := 4) iX8_singOnce_113 (by decide) ?_
        exact hv _ _ _
      · have hv := hv.1 c78
        refine At_aload_n (pc' := 82) iX8_singOnce_81 rfl rfl ?_
        refine At_getR (pc' := 85) iX8_singOnce_82 rfl f_8_38 (kdK eT (X8_k0 hA)) (by decide) (rfH eT (X8_r6 hA)) ?_
        refine At_iload (pc' := 87) iX8_singOnce_85 rfl rfl ?_
        refine At_aload_n (pc' := 88) iX8_singOnce_87 rfl rfl ?_
        refine At_getJ (pc' := 91) iX8_singOnce_88 rfl f_8_18 (kdK eT (X8_k0 hA)) (by decide) ?_
        refine At_aload_n (pc' := 92) iX8_singOnce_91 rfl rfl ?_
        refine At_getI (pc' := 95) iX8_singOnce_92 rfl f_8_9 (kdK eT (X8_k0 hA)) (by decide) ?_
        refine At_virt (pc' := 98) iX8_singOnce_95 rfl m_8_104 rfl rfl (kdK eT (X1_k0 (X8_cord hA))) (Nat.le_of_ble_eq_true rfl) (Nat.le_of_ble_eq_true rfl) ?_
        refine At.mono (show CallZ (d + 3) MX1_make [.ref (a + 3), .int (gI h (x1 + 1) x3.toNatClampNeg), .long (gJ h a 2), .int (gI h a 0)] h _ from hv) ?_
        rintro _ h95 ⟨r95, rfl, eT95, hv⟩
        show At (d + 4) MX8_singOnce 98 [.ref a, .ref x1, .int x2, .int x3, .int (gI h (x1 + 1) x3.toNatClampNeg), .int (r_X6_get (gJ h (a + 3) 0) (r_X4_from (gI h (x1 + 1) x3.toNatClampNeg))), .int (nI 0)] [.int (b2i r95)] h95 Q
        refine At_zeq (t := 110) (pc' := 101) iX8_singOnce_98 (by decide) rfl (fun c98 => ?_) (fun c98 => ?_)
        · have hv := hv.2 c98
          refine At_iinc (v := nI 1) (L' := [.ref a, .ref x1, .int x2, .int (x3 + nI 1), .int (gI h (x1 + 1) x3.toNatClampNeg), .int (r_X6_get (gJ h (a + 3) 0) (r_X4_from (gI h (x1 + 1) x3.toNatClampNeg))), .int (nI 0)]) (pc' := 113) iX8_singOnce_110 rfl rfl (Nat.le_of_ble_eq_true rfl) (by decide) rfl ?_
          refine At_goto (t := 4) iX8_singOnce_113 (by decide) ?_
          exact hv _ _ _
        · have hv := hv.1 c98
          refine At_aload_n (pc' := 102) iX8_singOnce_101 rfl rfl ?_
          refine At_iload (pc' := 104) iX8_singOnce_102 rfl rfl ?_
          refine At_virt (pc' := 107) iX8_singOnce_104 rfl m_8_108 rfl rfl (kdK eT95 (X8_k0 hA)) (Nat.le_of_ble_eq_true rfl) (Nat.le_of_ble_eq_true rfl) ?_
          obtain ⟨hn2, hv⟩ := hv
          refine c_X8_addRow (h := h95) hL eT95 a (r_X6_get (gJ h (a + 3) 0) (r_X4_from (gI h (x1 + 1) x3.toNatClampNeg))) hA hn2 (show At (d + 4) MX8_singOnce 107 [.ref a, .ref x1, .int x2, .int x3, .int (gI h (x1 + 1) x3.toNatClampNeg), .int (r_X6_get (gJ h (a + 3) 0) (r_X4_from (gI h (x1 + 1) x3.toNatClampNeg))), .int (nI 0)] [] (w_X8_addRow a (r_X6_get (gJ h (a + 3) 0) (r_X4_from (gI h (x1 + 1) x3.toNatClampNeg))) h95) Q from ?_)
          refine At_iinc (v := nI 1) (L' := [.ref a, .ref x1, .int (x2 + nI 1), .int x3, .int (gI h (x1 + 1) x3.toNatClampNeg), .int (r_X6_get (gJ h (a + 3) 0) (r_X4_from (gI h (x1 + 1) x3.toNatClampNeg))), .int (nI 0)]) (pc' := 110) iX8_singOnce_107 rfl rfl (Nat.le_of_ble_eq_true rfl) (by decide) rfl ?_
          refine At_iinc (v := nI 1) (L' := [.ref a, .ref x1, .int (x2 + nI 1), .int (x3 + nI 1), .int (gI h (x1 + 1) x3.toNatClampNeg), .int (r_X6_get (gJ h (a + 3) 0) (r_X4_from (gI h (x1 + 1) x3.toNatClampNeg))), .int (nI 0)]) (pc' := 113) iX8_singOnce_110 rfl rfl (Nat.le_of_ble_eq_true rfl) (by decide) rfl ?_
          refine At_goto (t := 4) iX8_singOnce_113 (by decide) ?_
          exact hv _ _ _
    · have hv := hv.2 c42
      refine At_aload_n (pc' := 46) iX8_singOnce_45 rfl rfl ?_
      refine At_getI (pc' := 49) iX8_singOnce_46 rfl f_8_15 (kdK eT (X8_k0 hA)) (by decide) ?_
      refine At_if_le (t := 73) (pc' := 52) iX8_singOnce_49 (by decide) rfl (fun c49 => ?_) (fun c49 => ?_)
      · have hv := hv.2 c49
        refine At_iconst (v := nI 0) (pc' := 74) iX8_singOnce_73 rfl (by decide) ?_
        refine At_istore (L' := [.ref a, .ref x1, .int x2, .int x3, .int (gI h (x1 + 1) x3.toNatClampNeg), .int (r_X6_get (gJ h (a + 3) 0) (r_X4_from (gI h (x1 + 1) x3.toNatClampNeg))), .int (nI 0)]) (pc' := 76) iX8_singOnce_74 rfl (Nat.le_of_ble_eq_true rfl) rfl ?_
        refine At_iload (pc' := 78) iX8_singOnce_76 rfl rfl ?_
        refine At_if_ne (t := 110) (pc' := 81) iX8_singOnce_78 (by decide) rfl (fun c78 => ?_) (fun c78 => ?_)
        · have hv := hv.2 c78
          refine At_iinc (v := nI 1) (L' := [.ref a, .ref x1, .int x2, .int (x3 + nI 1), .int (gI h (x1 + 1) x3.toNatClampNeg), .int (r_X6_get (gJ h (a + 3) 0) (r_X4_from (gI h (x1 + 1) x3.toNatClampNeg))), .int (nI 0)]) (pc' := 113) iX8_singOnce_110 rfl rfl (Nat.le_of_ble_eq_true rfl) (by decide) rfl ?_
          refine At_goto (t := 4) iX8_singOnce_113 (by decide) ?_
          exact hv _ _ _
        · have hv := hv.1 c78
          refine At_aload_n (pc' := 82) iX8_singOnce_81 rfl rfl ?_
          refine At_getR (pc' := 85) iX8_singOnce_82 rfl f_8_38 (kdK eT (X8_k0 hA)) (by decide) (rfH eT (X8_r6 hA)) ?_
          refine At_iload (pc' := 87) iX8_singOnce_85 rfl rfl ?_
          refine At_aload_n (pc' := 88) iX8_singOnce_87 rfl rfl ?_
          refine At_getJ (pc' := 91) iX8_singOnce_88 rfl f_8_18 (kdK eT (X8_k0 hA)) (by decide) ?_
          refine At_aload_n (pc' := 92) iX8_singOnce_91 rfl rfl ?_
          refine At_getI (pc' := 95) iX8_singOnce_92 rfl f_8_9 (kdK eT (X8_k0 hA)) (by decide) ?_
          refine At_virt (pc' := 98) iX8_singOnce_95 rfl m_8_104 rfl rfl (kdK eT (X1_k0 (X8_cord hA))) (Nat.le_of_ble_eq_true rfl) (Nat.le_of_ble_eq_true rfl) ?_
          refine At.mono (show CallZ (d + 3) MX1_make [.ref (a + 3), .int (gI h (x1 + 1) x3.toNatClampNeg), .long (gJ h a 2), .int (gI h a 0)] h _ from hv) ?_
          rintro _ h95 ⟨r95, rfl, eT95, hv⟩
          show At (d + 4) MX8_singOnce 98 [.ref a, .ref x1, .int x2, .int x3, .int (gI h (x1 + 1) x3.toNatClampNeg), .int (r_X6_get (gJ h (a + 3) 0) (r_X4_from (gI h (x1 + 1) x3.toNatClampNeg))), .int (nI 0)] [.int (b2i r95)] h95 Q
          refine At_zeq (t := 110) (pc' := 101) iX8_singOnce_98 (by decide) rfl (fun c98 => ?_) (fun c98 => ?_)
          · have hv := hv.2 c98
            refine At_iinc (v := nI 1) (L' := [.ref a, .ref x1, .int x2, .int (x3 + nI 1), .int (gI h (x1 + 1) x3.toNatClampNeg), .int (r_X6_get (gJ h (a + 3) 0) (r_X4_from (gI h (x1 + 1) x3.toNatClampNeg))), .int (nI 0)]) (pc' := 113) iX8_singOnce_110 rfl rfl (Nat.le_of_ble_eq_true rfl) (by decide) rfl ?_
            refine At_goto (t := 4) iX8_singOnce_113 (by decide) ?_
            exact hv _ _ _
          · have hv := hv.1 c98
            refine At_aload_n (pc' := 102) iX8_singOnce_101 rfl rfl ?_
            refine At_iload (pc' := 104) iX8_singOnce_102 rfl rfl ?_
            refine At_virt (pc' := 107) iX8_singOnce_104 rfl m_8_108 rfl rfl (kdK eT95 (X8_k0 hA)) (Nat.le_of_ble_eq_true rfl) (Nat.le_of_ble_eq_true rfl) ?_
            obtain ⟨hn3, hv⟩ := hv
            refine c_X8_addRow (h := h95) hL eT95 a (r_X6_get (gJ h (a + 3) 0) (r_X4_from (gI h (x1 + 1) x3.toNatClampNeg))) hA hn3 (show At (d + 4) MX8_singOnce 107 [.ref a, .ref x1, .int x2, .int x3, .int (gI h (x1 + 1) x3.toNatClampNeg), .int (r_X6_get (gJ h (a + 3) 0) (r_X4_from (gI h (x1 + 1) x3.toNatClampNeg))), .int (nI 0)] [] (w_X8_addRow a (r_X6_get (gJ h (a + 3) 0) (r_X4_from (gI h (x1 + 1) x3.toNatClampNeg))) h95) Q from ?_)
            refine At_iinc (v := nI 1) (L' := [.ref a, .ref x1, .int (x2 + nI 1), .int x3, .int (gI h (x1 + 1) x3.toNatClampNeg), .int (r_X6_get (gJ h (a + 3) 0) (r_X4_from (gI h (x1 + 1) x3.toNatClampNeg))), .int (nI 0)]) (pc' := 110) iX8_singOnce_107 rfl rfl (Nat.le_of_ble_eq_true rfl) (by decide) rfl ?_
            refine At_iinc (v := nI 1) (L' := [.ref a, .ref x1, .int (x2 + nI 1), .int (x3 + nI 1), .int (gI h (x1 + 1) x3.toNatClampNeg), .int (r_X6_get (gJ h (a + 3) 0) (r_X4_from (gI h (x1 + 1) x3.toNatClampNeg))), .int (nI 0)]) (pc' := 113) iX8_singOnce_110 rfl rfl (Nat.le_of_ble_eq_true rfl) (by decide) rfl ?_
            refine At_goto (t := 4) iX8_singOnce_113 (by decide) ?_
            exact hv _ _ _
      · have hv := hv.1 c49
        refine At_aload_n (pc' := 53) iX8_singOnce_52 rfl rfl ?_
        refine At_getR (pc' := 56) iX8_singOnce_53 rfl f_8_38 (kdK eT (X8_k0 hA)) (by decide) (rfH eT (X8_r6 hA)) ?_
        refine At_sipush (v := nI 1000) (pc' := 59) iX8_singOnce_56 rfl (by decide) ?_
        refine At_virt (pc' := 62) iX8_singOnce_59 rfl m_8_101 rfl rfl (kdK eT (X1_k0 (X8_cord hA))) (Nat.le_of_ble_eq_true rfl) (Nat.le_of_ble_eq_true rfl) ?_
        obtain ⟨hn4, hv⟩ := hv
        refine c_X1_draw (h := h) hL eT (a + 3) (nI 1000) (X8_cord hA) hn4 (show At (d + 4) MX8_singOnce 62 [.ref a, .ref x1, .int x2, .int x3, .int (gI h (x1 + 1) x3.toNatClampNeg), .int (r_X6_get (gJ h (a + 3) 0) (r_X4_from (gI h (x1 + 1) x3.toNatClampNeg))), v6] [.int (r_X1_draw (a + 3) (nI 1000) h)] (w_X1_draw (a + 3) (nI 1000) h) Q from ?_)
        refine At_aload_n (pc' := 63) iX8_singOnce_62 rfl rfl ?_
        refine At_getI (pc' := 66) iX8_singOnce_63 rfl f_8_15 (kdK ((wT_X1_draw (a + 3) (nI 1000) h).trans eT) (X8_k0 hA)) (by decide) ?_
        refine At_icmp_ge (t := 73) (pc' := 69) iX8_singOnce_66 (by decide) rfl (fun c66 => ?_) (fun c66 => ?_)
        · have hv := hv.2 c66
          refine At_iconst (v := nI 0) (pc' := 74) iX8_singOnce_73 rfl (by decide) ?_
          refine At_istore (L' := [.ref a, .ref x1, .int x2, .int x3, .int (gI h (x1 + 1) x3.toNatClampNeg), .int (r_X6_get (gJ h (a + 3) 0) (r_X4_from (gI h (x1 + 1) x3.toNatClampNeg))), .int (nI 0)]) (pc' := 76) iX8_singOnce_74 rfl (Nat.le_of_ble_eq_true rfl) rfl ?_
          refine At_iload (pc' := 78) iX8_singOnce_76 rfl rfl ?_
          refine At_if_ne (t := 110) (pc' := 81) iX8_singOnce_78 (by decide) rfl (fun c78 => ?_) (fun c78 => ?_)
          · have hv := hv.2 c78
            refine At_iinc (v := nI 1) (L' := [.ref a, .ref x1, .int x2, .int (x3 + nI 1), .int (gI h (x1 + 1) x3.toNatClampNeg), .int (r_X6_get (gJ h (a + 3) 0) (r_X4_from (gI h (x1 + 1) x3.toNatClampNeg))), .int (nI 0)]) (pc' := 113) iX8_singOnce_110 rfl rfl (Nat.le_of_ble_eq_true rfl) (by decide) rfl ?_
            refine At_goto (t := 4) iX8_singOnce_113 (by decide) ?_
            exact hv _ _ _
          · have hv := hv.1 c78
            refine At_aload_n (pc' := 82) iX8_singOnce_81 rfl rfl ?_
            refine At_getR (pc' := 85) iX8_singOnce_82 rfl f_8_38 (kdK ((wT_X1_draw (a + 3) (nI 1000) h).trans eT) (X8_k0 hA)) (by decide) (rfH ((wT_X1_draw (a + 3) (nI 1000) h).trans eT) (X8_r6 hA)) ?_
            refine At_iload (pc' := 87) iX8_singOnce_85 rfl rfl ?_
            refine At_aload_n (pc' := 88) iX8_singOnce_87 rfl rfl ?_
            refine At_getJ (pc' := 91) iX8_singOnce_88 rfl f_8_18 (kdK ((wT_X1_draw (a + 3) (nI 1000) h).trans eT) (X8_k0 hA)) (by decide) ?_
            refine At_aload_n (pc' := 92) iX8_singOnce_91 rfl rfl ?_
            refine At_getI (pc' := 95) iX8_singOnce_92 rfl f_8_9 (kdK ((wT_X1_draw (a + 3) (nI 1000) h).trans eT) (X8_k0 hA)) (by decide) ?_
            refine At_virt (pc' := 98) iX8_singOnce_95 rfl m_8_104 rfl rfl (kdK ((wT_X1_draw (a + 3) (nI 1000) h).trans eT) (X1_k0 (X8_cord hA))) (Nat.le_of_ble_eq_true rfl) (Nat.le_of_ble_eq_true rfl) ?_
            refine At.mono (show CallZ (d + 3) MX1_make [.ref (a + 3), .int (gI h (x1 + 1) x3.toNatClampNeg), .long (gJ (w_X1_draw (a + 3) (nI 1000) h) a 2), .int (gI (w_X1_draw (a + 3) (nI 1000) h) a 0)] (w_X1_draw (a + 3) (nI 1000) h) _ from hv) ?_
            rintro _ h95 ⟨r95, rfl, eT95, hv⟩
            show At (d + 4) MX8_singOnce 98 [.ref a, .ref x1, .int x2, .int x3, .int (gI h (x1 + 1) x3.toNatClampNeg), .int (r_X6_get (gJ h (a + 3) 0) (r_X4_from (gI h (x1 + 1) x3.toNatClampNeg))), .int (nI 0)] [.int (b2i r95)] h95 Q
            refine At_zeq (t := 110) (pc' := 101) iX8_singOnce_98 (by decide) rfl (fun c98 => ?_) (fun c98 => ?_)
            · have hv := hv.2 c98
              refine At_iinc (v := nI 1) (L' := [.ref a, .ref x1, .int x2, .int (x3 + nI 1), .int (gI h (x1 + 1) x3.toNatClampNeg), .int (r_X6_get (gJ h (a + 3) 0) (r_X4_from (gI h (x1 + 1) x3.toNatClampNeg))), .int (nI 0)]) (pc' := 113) iX8_singOnce_110 rfl rfl (Nat.le_of_ble_eq_true rfl) (by decide) rfl ?_
              refine At_goto (t := 4) iX8_singOnce_113 (by decide) ?_
              exact hv _ _ _
            · have hv := hv.1 c98
              refine At_aload_n (pc' := 102) iX8_singOnce_101 rfl rfl ?_
              refine At_iload (pc' := 104) iX8_singOnce_102 rfl rfl ?_
              refine At_virt (pc' := 107) iX8_singOnce_104 rfl m_8_108 rfl rfl (kdK eT95 (X8_k0 hA)) (Nat.le_of_ble_eq_true rfl) (Nat.le_of_ble_eq_true rfl) ?_
              obtain ⟨hn5, hv⟩ := hv
              refine c_X8_addRow (h := h95) hL eT95 a (r_X6_get (gJ h (a + 3) 0) (r_X4_from (gI h (x1 + 1) x3.toNatClampNeg))) hA hn5 (show At (d + 4) MX8_singOnce 107 [.ref a, .ref x1, .int x2, .int x3, .int (gI h (x1 + 1) x3.toNatClampNeg), .int (r_X6_get (gJ h (a + 3) 0) (r_X4_from (gI h (x1 + 1) x3.toNatClampNeg))), .int (nI 0)] [] (w_X8_addRow a (r_X6_get (gJ h (a + 3) 0) (r_X4_from (gI h (x1 + 1) x3.toNatClampNeg))) h95) Q from ?_)
              refine At_iinc (v := nI 1) (L' := [.ref a, .ref x1, .int (x2 + nI 1), .int x3, .int (gI h (x1 + 1) x3.toNatClampNeg), .int (r_X6_get (gJ h (a + 3) 0) (r_X4_from (gI h (x1 + 1) x3.toNatClampNeg))), .int (nI 0)]) (pc' := 110) iX8_singOnce_107 rfl rfl (Nat.le_of_ble_eq_true rfl) (by decide) rfl ?_
              refine At_iinc (v := nI 1) (L' := [.ref a, .ref x1, .int (x2 + nI 1), .int (x3 + nI 1), .int (gI h (x1 + 1) x3.toNatClampNeg), .int (r_X6_get (gJ h (a + 3) 0) (r_X4_from (gI h (x1 + 1) x3.toNatClampNeg))), .int (nI 0)]) (pc' := 113) iX8_singOnce_110 rfl rfl (Nat.le_of_ble_eq_true rfl) (by decide) rfl ?_
              refine At_goto (t := 4) iX8_singOnce_113 (by decide) ?_
              exact hv _ _ _
        · have hv := hv.1 c66
          refine At_iconst (v := nI 1) (pc' := 70) iX8_singOnce_69 rfl (by decide) ?_
          refine At_goto (t := 74) iX8_singOnce_70 (by decide) ?_
          refine At_istore (L' := [.ref a, .ref x1, .int x2, .int x3, .int (gI h (x1 + 1) x3.toNatClampNeg), .int (r_X6_get (gJ h (a + 3) 0) (r_X4_from (gI h (x1 + 1) x3.toNatClampNeg))), .int (nI 1)]) (pc' := 76) iX8_singOnce_74 rfl (Nat.le_of_ble_eq_true rfl) rfl ?_
          refine At_iload (pc' := 78) iX8_singOnce_76 rfl rfl ?_
          refine At_if_ne (t := 110) (pc' := 81) iX8_singOnce_78 (by decide) rfl (fun c78 => ?_) (fun c78 => ?_)
          · have hv := hv.2 c78
            refine At_iinc (v := nI 1) (L' := [.ref a, .ref x1, .int x2, .int (x3 + nI 1), .int (gI h (x1 + 1) x3.toNatClampNeg), .int (r_X6_get (gJ h (a + 3) 0) (r_X4_from (gI h (x1 + 1) x3.toNatClampNeg))), .int (nI 1)]) (pc' := 113) iX8_singOnce_110 rfl rfl (Nat.le_of_ble_eq_true rfl) (by decide) rfl ?_
            refine At_goto (t := 4) iX8_singOnce_113 (by decide) ?_
            exact hv _ _ _
          · have hv := hv.1 c78
            refine At_aload_n (pc' := 82) iX8_singOnce_81 rfl rfl ?_
            refine At_getR (pc' := 85) iX8_singOnce_82 rfl f_8_38 (kdK ((wT_X1_draw (a + 3) (nI 1000) h).trans eT) (X8_k0 hA)) (by decide) (rfH ((wT_X1_draw (a + 3) (nI 1000) h).trans eT) (X8_r6 hA)) ?_
            refine At_iload (pc' := 87) iX8_singOnce_85 rfl rfl ?_
            refine At_aload_n (pc' := 88) iX8_singOnce_87 rfl rfl ?_
            refine At_getJ (pc' := 91) iX8_singOnce_88 rfl f_8_18 (kdK ((wT_X1_draw (a + 3) (nI 1000) h).trans eT) (X8_k0 hA)) (by decide) ?_
            refine At_aload_n (pc' := 92) iX8_singOnce_91 rfl rfl ?_
            refine At_getI (pc' := 95) iX8_singOnce_92 rfl f_8_9 (kdK ((wT_X1_draw (a + 3) (nI 1000) h).trans eT) (X8_k0 hA)) (by decide) ?_
            refine At_virt (pc' := 98) iX8_singOnce_95 rfl m_8_104 rfl rfl (kdK ((wT_X1_draw (a + 3) (nI 1000) h).trans eT) (X1_k0 (X8_cord hA))) (Nat.le_of_ble_eq_true rfl) (Nat.le_of_ble_eq_true rfl) ?_
            refine At.mono (show CallZ (d + 3) MX1_make [.ref (a + 3), .int (gI h (x1 + 1) x3.toNatClampNeg), .long (gJ (w_X1_draw (a + 3) (nI 1000) h) a 2), .int (gI (w_X1_draw (a + 3) (nI 1000) h) a 0)] (w_X1_draw (a + 3) (nI 1000) h) _ from hv) ?_
            rintro _ h95 ⟨r95, rfl, eT95, hv⟩
            show At (d + 4) MX8_singOnce 98 [.ref a, .ref x1, .int x2, .int x3, .int (gI h (x1 + 1) x3.toNatClampNeg), .int (r_X6_get (gJ h (a + 3) 0) (r_X4_from (gI h (x1 + 1) x3.toNatClampNeg))), .int (nI 1)] [.int (b2i r95)] h95 Q
            refine At_zeq (t := 110) (pc' := 101) iX8_singOnce_98 (by decide) rfl (fun c98 => ?_) (fun c98 => ?_)
            · have hv := hv.2 c98
              refine At_iinc (v := nI 1) (L' := [.ref a, .ref x1, .int x2, .int (x3 + nI 1), .int (gI h (x1 + 1) x3.toNatClampNeg), .int (r_X6_get (gJ h (a + 3) 0) (r_X4_from (gI h (x1 + 1) x3.toNatClampNeg))), .int (nI 1)]) (pc' := 113) iX8_singOnce_110 rfl rfl (Nat.le_of_ble_eq_true rfl) (by decide) rfl ?_
              refine At_goto (t := 4) iX8_singOnce_113 (by decide) ?_
              exact hv _ _ _
            · have hv := hv.1 c98
              refine At_aload_n (pc' := 102) iX8_singOnce_101 rfl rfl ?_
              refine At_iload (pc' := 104) iX8_singOnce_102 rfl rfl ?_
              refine At_virt (pc' := 107) iX8_singOnce_104 rfl m_8_108 rfl rfl (kdK eT95 (X8_k0 hA)) (Nat.le_of_ble_eq_true rfl) (Nat.le_of_ble_eq_true rfl) ?_
              obtain ⟨hn6, hv⟩ := hv
              refine c_X8_addRow (h := h95) hL eT95 a (r_X6_get (gJ h (a + 3) 0) (r_X4_from (gI h (x1 + 1) x3.toNatClampNeg))) hA hn6 (show At (d + 4) MX8_singOnce 107 [.ref a, .ref x1, .int x2, .int x3, .int (gI h (x1 + 1) x3.toNatClampNeg), .int (r_X6_get (gJ h (a + 3) 0) (r_X4_from (gI h (x1 + 1) x3.toNatClampNeg))), .int (nI 1)] [] (w_X8_addRow a (r_X6_get (gJ h (a + 3) 0) (r_X4_from (gI h (x1 + 1) x3.toNatClampNeg))) h95) Q from ?_)
              refine At_iinc (v := nI 1) (L' := [.ref a, .ref x1, .int (x2 + nI 1), .int x3, .int (gI h (x1 + 1) x3.toNatClampNeg), .int (r_X6_get (gJ h (a + 3) 0) (r_X4_from (gI h (x1 + 1) x3.toNatClampNeg))), .int (nI 1)]) (pc' := 110) iX8_singOnce_107 rfl rfl (Nat.le_of_ble_eq_true rfl) (by decide) rfl ?_
              refine At_iinc (v := nI 1) (L' := [.ref a, .ref x1, .int (x2 + nI 1), .int (x3 + nI 1), .int (gI h (x1 + 1) x3.toNatClampNeg), .int (r_X6_get (gJ h (a + 3) 0) (r_X4_from (gI h (x1 + 1) x3.toNatClampNeg))), .int (nI 1)]) (pc' := 113) iX8_singOnce_110 rfl rfl (Nat.le_of_ble_eq_true rfl) (by decide) rfl ?_
              refine At_goto (t := 4) iX8_singOnce_113 (by decide) ?_
              exact hv _ _ _
