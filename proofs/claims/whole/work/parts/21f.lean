-- blocks between loop heads; written out by gen20.py
-- X11_beats (loop)
def L_X11_beats_21 (d : Nat) (x1 : Int32) (x2 : Int32) (x3 : Int32) (h : Hp) (Q : Option Value → Hp → Prop) : Prop := ∀ v4 v5 v6 : Value, At (d + 3) MX11_beats 21 [.ref 59, .int x1, .int x2, .int x3, v4, v5, v6] [] h Q
def L_X11_beats_46 (d : Nat) (x1 : Int32) (x2 : Int32) (x3 : Int32) (x4 : Int32) (h : Hp) (Q : Option Value → Hp → Prop) : Prop := ∀ v5 v6 : Value, At (d + 3) MX11_beats 46 [.ref 59, .int x1, .int x2, .int x3, .int x4, v5, v6] [] h Q
def L_X11_beats_90 (d : Nat) (x1 : Int32) (x2 : Int32) (x3 : Int32) (x4 : Int32) (x5 : Int32) (x6 : Int32) (h : Hp) (Q : Option Value → Hp → Prop) : Prop := At (d + 3) MX11_beats 90 [.ref 59, .int x1, .int x2, .int x3, .int x4, .int x5, .int x6] [] h Q
def L_X11_beats_138 (d : Nat) (x1 : Int32) (x2 : Int32) (x3 : Int32) (x4 : Int32) (x5 : Int32) (h : Hp) (Q : Option Value → Hp → Prop) : Prop := ∀ v6 : Value, At (d + 3) MX11_beats 138 [.ref 59, .int x1, .int x2, .int x3, .int x4, .int x5, v6] [] h Q
set_option maxRecDepth 20000 in
theorem b_X11_beats {d : Nat} {T : HT} (hL : Lay T) {h : Hp} (eT : h.2.2 = T) (x1 : Int32) (x2 : Int32)  {Q : Option Value → Hp → Prop} (hv : (((r_X11_isSong x1) = true) → ((((r_X11_isIn x2 (nI 1) (nI 9)) = true) → (L_X11_beats_21 d x1 x2 (nI 0) h Q)) ∧ (¬ ((r_X11_isIn x2 (nI 1) (nI 9)) = true) → (Q (some (.int (-1))) h)))) ∧ (¬ ((r_X11_isSong x1) = true) → (Q (some (.int (-1))) h))) : Call (d + 3) MX11_beats [.ref 59, .int x1, .int x2] h Q := by
  show At (d + 3) MX11_beats 0 [.ref 59, .int x1, .int x2, un, un, un, un] [] h Q
  refine At_iload_n (pc' := 1) iX11_beats_0 rfl rfl ?_
  refine At_stat (pc' := 4) iX11_beats_1 rfl m_11_178 rfl rfl (Nat.le_of_ble_eq_true rfl) (Nat.le_of_ble_eq_true rfl) (Nat.le_of_ble_eq_true rfl) ?_
  refine c_X11_isSong (h := h) x1   (show At (d + 3) MX11_beats 4 [.ref 59, .int x1, .int x2, un, un, un, un] [.int (b2i (r_X11_isSong x1))] h Q from ?_)
  refine At_zeq (t := 17) (pc' := 7) iX11_beats_4 (by decide) rfl (fun c4 => ?_) (fun c4 => ?_)
  · have hv := hv.2 c4
    refine At_iconst (v := (-1)) (pc' := 18) iX11_beats_17 rfl (by decide) ?_
    exact At_retI iX11_beats_18 rfl hv
  · have hv := hv.1 c4
    refine At_iload_n (pc' := 8) iX11_beats_7 rfl rfl ?_
    refine At_iconst (v := nI 1) (pc' := 9) iX11_beats_8 rfl (by decide) ?_
    refine At_bipush (v := nI 9) (pc' := 11) iX11_beats_9 rfl (by decide) ?_
    refine At_stat (pc' := 14) iX11_beats_11 rfl m_11_72 rfl rfl (Nat.le_of_ble_eq_true rfl) (Nat.le_of_ble_eq_true rfl) (Nat.le_of_ble_eq_true rfl) ?_
    refine c_X11_isIn (h := h) x2 (nI 1) (nI 9)   (show At (d + 3) MX11_beats 14 [.ref 59, .int x1, .int x2, un, un, un, un] [.int (b2i (r_X11_isIn x2 (nI 1) (nI 9)))] h Q from ?_)
    refine At_zne (t := 19) (pc' := 17) iX11_beats_14 (by decide) rfl (fun c14 => ?_) (fun c14 => ?_)
    · have hv := hv.1 c14
      refine At_iconst (v := nI 0) (pc' := 20) iX11_beats_19 rfl (by decide) ?_
      refine At_istore_n (L' := [.ref 59, .int x1, .int x2, .int (nI 0), un, un, un]) (pc' := 21) iX11_beats_20 rfl (Nat.le_of_ble_eq_true rfl) rfl ?_
      exact hv _ _ _
    · have hv := hv.2 c14
      refine At_iconst (v := (-1)) (pc' := 18) iX11_beats_17 rfl (by decide) ?_
      exact At_retI iX11_beats_18 rfl hv
set_option maxRecDepth 20000 in
theorem b_X11_beats_21 {d : Nat} {T : HT} (hL : Lay T) {h : Hp} (eT : h.2.2 = T) (x1 : Int32) (x2 : Int32) (x3 : Int32)  {Q : Option Value → Hp → Prop} (hv : ((x3 < (nI 202)) → ((inB x3 202 = true) ∧ (L_X11_beats_21 d x1 x2 (x3 + nI 1) (sI h 75 x3.toNatClampNeg (nI 0)) Q))) ∧ (¬ (x3 < (nI 202)) → (L_X11_beats_46 d x1 x2 (nI 0) (nI 0) h Q))) : L_X11_beats_21 d x1 x2 x3 h Q := by
  intro v4 v5 v6
  refine At_iload_n (pc' := 22) iX11_beats_21 rfl rfl ?_
  refine At_sipush (v := nI 202) (pc' := 25) iX11_beats_22 rfl (by decide) ?_
  refine At_icmp_ge (t := 41) (pc' := 28) iX11_beats_25 (by decide) rfl (fun c25 => ?_) (fun c25 => ?_)
  · have hv := hv.2 c25
    refine At_iconst (v := nI 0) (pc' := 42) iX11_beats_41 rfl (by decide) ?_
    refine At_istore_n (L' := [.ref 59, .int x1, .int x2, .int (nI 0), v4, v5, v6]) (pc' := 43) iX11_beats_42 rfl (Nat.le_of_ble_eq_true rfl) rfl ?_
    refine At_iconst (v := nI 0) (pc' := 44) iX11_beats_43 rfl (by decide) ?_
    refine At_istore (L' := [.ref 59, .int x1, .int x2, .int (nI 0), .int (nI 0), v5, v6]) (pc' := 46) iX11_beats_44 rfl (Nat.le_of_ble_eq_true rfl) rfl ?_
    exact hv _ _
  · have hv := hv.1 c25
    refine At_aload_n (pc' := 29) iX11_beats_28 rfl rfl ?_
    refine At_getR (pc' := 32) iX11_beats_29 rfl f_11_59 (kdK eT (kd_59 hL)) (by decide) (rfH eT (rf_59_28 hL)) ?_
    refine At_iload_n (pc' := 33) iX11_beats_32 rfl rfl ?_
    refine At_iconst (v := nI 0) (pc' := 34) iX11_beats_33 rfl (by decide) ?_
    obtain ⟨hn1, hv⟩ := hv
    refine At_iast (pc' := 35) iX11_beats_34 rfl (kdH eT (kd_75 hL)) hn1 (show At (d + 3) MX11_beats 35 [.ref 59, .int x1, .int x2, .int x3, v4, v5, v6] [] (sI h 75 x3.toNatClampNeg (nI 0)) Q from ?_)
    refine At_iinc (v := nI 1) (L' := [.ref 59, .int x1, .int x2, .int (x3 + nI 1), v4, v5, v6]) (pc' := 38) iX11_beats_35 rfl rfl (Nat.le_of_ble_eq_true rfl) (by decide) rfl ?_
    refine At_goto (t := 21) iX11_beats_38 (by decide) ?_
    exact hv _ _ _
set_option maxRecDepth 20000 in
theorem b_X11_beats_46 {d : Nat} {T : HT} (hL : Lay T) {h : Hp} (eT : h.2.2 = T) (x1 : Int32) (x2 : Int32) (x3 : Int32) (x4 : Int32)  {Q : Option Value → Hp → Prop} (hv : (inB ((nI 975) + x1) 4180 = true) ∧ (((x4 < (gI h 60 (((nI 975) + x1).toNatClampNeg))) → ((inB x4 200 = true) ∧ ((p_X11_ofMove x1 x4 (nI 0) (sI h 74 x4.toNatClampNeg (nI 0))) ∧ ((((r_X11_ofMove x1 x4 (nI 0) (sI h 74 x4.toNatClampNeg (nI 0))) = (nI 2)) → (L_X11_beats_46 d x1 x2 x3 (x4 + nI 1) (sI h 74 x4.toNatClampNeg (nI 0)) Q)) ∧ (¬ ((r_X11_ofMove x1 x4 (nI 0) (sI h 74 x4.toNatClampNeg (nI 0))) = (nI 2)) → (L_X11_beats_90 d x1 x2 x3 x4 (nI 1) (nI 0) (sI h 74 x4.toNatClampNeg (nI 0)) Q)))))) ∧ (¬ (x4 < (gI h 60 (((nI 975) + x1).toNatClampNeg))) → (Q (some (.int x3)) h)))) : L_X11_beats_46 d x1 x2 x3 x4 h Q := by
  intro v5 v6
  refine At_iload (pc' := 48) iX11_beats_46 rfl rfl ?_
  refine At_aload_n (pc' := 49) iX11_beats_48 rfl rfl ?_
  refine At_getR (pc' := 52) iX11_beats_49 rfl f_11_7 (kdK eT (kd_59 hL)) (by decide) (rfH eT (rf_59_0 hL)) ?_
  refine At_sipush (v := nI 975) (pc' := 55) iX11_beats_52 rfl (by decide) ?_
  refine At_iload_n (pc' := 56) iX11_beats_55 rfl rfl ?_
  refine At_iadd (pc' := 57) iX11_beats_56 rfl ?_
  obtain ⟨hn1, hv⟩ := hv
  refine At_iald (pc' := 58) iX11_beats_57 rfl (kdH eT (kd_60 hL)) hn1 (show At (d + 3) MX11_beats 58 [.ref 59, .int x1, .int x2, .int x3, .int x4, v5, v6] [.int (gI h 60 (((nI 975) + x1).toNatClampNeg)), .int x4] h Q from ?_)
  refine At_icmp_ge (t := 194) (pc' := 61) iX11_beats_58 (by decide) rfl (fun c58 => ?_) (fun c58 => ?_)
  · have hv := hv.2 c58
    refine At_iload_n (pc' := 195) iX11_beats_194 rfl rfl ?_
    exact At_retI iX11_beats_195 rfl hv
  · have hv := hv.1 c58
    refine At_aload_n (pc' := 62) iX11_beats_61 rfl rfl ?_
    refine At_getR (pc' := 65) iX11_beats_62 rfl f_11_56 (kdK eT (kd_59 hL)) (by decide) (rfH eT (rf_59_27 hL)) ?_
    refine At_iload (pc' := 67) iX11_beats_65 rfl rfl ?_
    refine At_iconst (v := nI 0) (pc' := 68) iX11_beats_67 rfl (by decide) ?_
    obtain ⟨hn2, hv⟩ := hv
    refine At_iast (pc' := 69) iX11_beats_68 rfl (kdH eT (kd_74 hL)) hn2 (show At (d + 3) MX11_beats 69 [.ref 59, .int x1, .int x2, .int x3, .int x4, v5, v6] [] (sI h 74 x4.toNatClampNeg (nI 0)) Q from ?_)
    refine At_aload_n (pc' := 70) iX11_beats_69 rfl rfl ?_
    refine At_iload_n (pc' := 71) iX11_beats_70 rfl rfl ?_
    refine At_iload (pc' := 73) iX11_beats_71 rfl rfl ?_
    refine At_iconst (v := nI 0) (pc' := 74) iX11_beats_73 rfl (by decide) ?_
    refine At_virt (pc' := 77) iX11_beats_74 rfl m_11_185 rfl rfl (kdK eT (kd_59 hL)) (Nat.le_of_ble_eq_true rfl) (Nat.le_of_ble_eq_true rfl) ?_
    obtain ⟨hn3, hv⟩ := hv
    refine c_X11_ofMove (h := sI h 74 x4.toNatClampNeg (nI 0)) hL eT x1 x4 (nI 0)  hn3 (show At (d + 3) MX11_beats 77 [.ref 59, .int x1, .int x2, .int x3, .int x4, v5, v6] [.int (r_X11_ofMove x1 x4 (nI 0) (sI h 74 x4.toNatClampNeg (nI 0)))] (sI h 74 x4.toNatClampNeg (nI 0)) Q from ?_)
    refine At_iconst (v := nI 2) (pc' := 78) iX11_beats_77 rfl (by decide) ?_
    refine At_icmp_ne (t := 84) (pc' := 81) iX11_beats_78 (by decide) rfl (fun c78 => ?_) (fun c78 => ?_)
    · have hv := hv.2 c78
      refine At_iconst (v := nI 1) (pc' := 85) iX11_beats_84 rfl (by decide) ?_
      refine At_istore (L' := [.ref 59, .int x1, .int x2, .int x3, .int x4, .int (nI 1), v6]) (pc' := 87) iX11_beats_85 rfl (Nat.le_of_ble_eq_true rfl) rfl ?_
      refine At_iconst (v := nI 0) (pc' := 88) iX11_beats_87 rfl (by decide) ?_
      refine At_istore (L' := [.ref 59, .int x1, .int x2, .int x3, .int x4, .int (nI 1), .int (nI 0)]) (pc' := 90) iX11_beats_88 rfl (Nat.le_of_ble_eq_true rfl) rfl ?_
      exact hv
    · have hv := hv.1 c78
      refine At_goto (t := 188) iX11_beats_81 (by decide) ?_
      refine At_iinc (v := nI 1) (L' := [.ref 59, .int x1, .int x2, .int x3, .int (x4 + nI 1), v5, v6]) (pc' := 191) iX11_beats_188 rfl rfl (Nat.le_of_ble_eq_true rfl) (by decide) rfl ?_
      refine At_goto (t := 46) iX11_beats_191 (by decide) ?_
      exact hv _ _
set_option maxRecDepth 20000 in
theorem b_X11_beats_90 {d : Nat} {T : HT} (hL : Lay T) {h : Hp} (eT : h.2.2 = T) (x1 : Int32) (x2 : Int32) (x3 : Int32) (x4 : Int32) (x5 : Int32) (x6 : Int32)  {Q : Option Value → Hp → Prop} (hv : ((x6 < x4) → ((inB x6 200 = true) ∧ ((((gI h 74 x6.toNatClampNeg) < x5) → (L_X11_beats_90 d x1 x2 x3 x4 x5 (x6 + nI 1) h Q)) ∧ (¬ ((gI h 74 x6.toNatClampNeg) < x5) → ((p_X11_doCross x1 x6 x4 h) ∧ ((((r_X11_doCross x1 x6 x4 h) = true) → ((inB x6 200 = true) ∧ (L_X11_beats_90 d x1 x2 x3 x4 ((gI h 74 x6.toNatClampNeg) + (nI 1)) (x6 + nI 1) h Q))) ∧ (¬ ((r_X11_doCross x1 x6 x4 h) = true) → (L_X11_beats_90 d x1 x2 x3 x4 x5 (x6 + nI 1) h Q)))))))) ∧ (¬ (x6 < x4) → (L_X11_beats_138 d x1 x2 x3 x4 x5 h Q))) : L_X11_beats_90 d x1 x2 x3 x4 x5 x6 h Q := by
  refine At_iload (pc' := 92) iX11_beats_90 rfl rfl ?_
  refine At_iload (pc' := 94) iX11_beats_92 rfl rfl ?_
  refine At_icmp_ge (t := 138) (pc' := 97) iX11_beats_94 (by decide) rfl (fun c94 => ?_) (fun c94 => ?_)
  · have hv := hv.2 c94
    exact hv _
  · have hv := hv.1 c94
    refine At_aload_n (pc' := 98) iX11_beats_97 rfl rfl ?_
    refine At_getR (pc' := 101) iX11_beats_98 rfl f_11_56 (kdK eT (kd_59 hL)) (by decide) (rfH eT (rf_59_27 hL)) ?_
    refine At_iload (pc' := 103) iX11_beats_101 rfl rfl ?_
    obtain ⟨hn1, hv⟩ := hv
    refine At_iald (pc' := 104) iX11_beats_103 rfl (kdH eT (kd_74 hL)) hn1 (show At (d + 3) MX11_beats 104 [.ref 59, .int x1, .int x2, .int x3, .int x4, .int x5, .int x6] [.int (gI h 74 x6.toNatClampNeg)] h Q from ?_)
    refine At_iload (pc' := 106) iX11_beats_104 rfl rfl ?_
    refine At_icmp_lt (t := 132) (pc' := 109) iX11_beats_106 (by decide) rfl (fun c106 => ?_) (fun c106 => ?_)
    · have hv := hv.1 c106
      refine At_iinc (v := nI 1) (L' := [.ref 59, .int x1, .int x2, .int x3, .int x4, .int x5, .int (x6 + nI 1)]) (pc' := 135) iX11_beats_132 rfl rfl (Nat.le_of_ble_eq_true rfl) (by decide) rfl ?_
      refine At_goto (t := 90) iX11_beats_135 (by decide) ?_
      exact hv
    · have hv := hv.2 c106
      refine At_aload_n (pc' := 110) iX11_beats_109 rfl rfl ?_
      refine At_iload_n (pc' := 111) iX11_beats_110 rfl rfl ?_
      refine At_iload (pc' := 113) iX11_beats_111 rfl rfl ?_
      refine At_iload (pc' := 115) iX11_beats_113 rfl rfl ?_
      refine At_virt (pc' := 118) iX11_beats_115 rfl m_11_267 rfl rfl (kdK eT (kd_59 hL)) (Nat.le_of_ble_eq_true rfl) (Nat.le_of_ble_eq_true rfl) ?_
      obtain ⟨hn2, hv⟩ := hv
      refine c_X11_doCross (h := h) hL eT x1 x6 x4  hn2 (show At (d + 3) MX11_beats 118 [.ref 59, .int x1, .int x2, .int x3, .int x4, .int x5, .int x6] [.int (b2i (r_X11_doCross x1 x6 x4 h))] h Q from ?_)
      refine At_zeq (t := 132) (pc' := 121) iX11_beats_118 (by decide) rfl (fun c118 => ?_) (fun c118 => ?_)
      · have hv := hv.2 c118
        refine At_iinc (v := nI 1) (L' := [.ref 59, .int x1, .int x2, .int x3, .int x4, .int x5, .int (x6 + nI 1)]) (pc' := 135) iX11_beats_132 rfl rfl (Nat.le_of_ble_eq_true rfl) (by decide) rfl ?_
        refine At_goto (t := 90) iX11_beats_135 (by decide) ?_
        exact hv
      · have hv := hv.1 c118
        refine At_aload_n (pc' := 122) iX11_beats_121 rfl rfl ?_
        refine At_getR (pc' := 125) iX11_beats_122 rfl f_11_56 (kdK eT (kd_59 hL)) (by decide) (rfH eT (rf_59_27 hL)) ?_
        refine At_iload (pc' := 127) iX11_beats_125 rfl rfl ?_
        obtain ⟨hn3, hv⟩ := hv
        refine At_iald (pc' := 128) iX11_beats_127 rfl (kdH eT (kd_74 hL)) hn3 (show At (d + 3) MX11_beats 128 [.ref 59, .int x1, .int x2, .int x3, .int x4, .int x5, .int x6] [.int (gI h 74 x6.toNatClampNeg)] h Q from ?_)
        refine At_iconst (v := nI 1) (pc' := 129) iX11_beats_128 rfl (by decide) ?_
        refine At_iadd (pc' := 130) iX11_beats_129 rfl ?_
        refine At_istore (L' := [.ref 59, .int x1, .int x2, .int x3, .int x4, .int ((gI h 74 x6.toNatClampNeg) + (nI 1)), .int x6]) (pc' := 132) iX11_beats_130 rfl (Nat.le_of_ble_eq_true rfl) rfl ?_
        refine At_iinc (v := nI 1) (L' := [.ref 59, .int x1, .int x2, .int x3, .int x4, .int ((gI h 74 x6.toNatClampNeg) + (nI 1)), .int (x6 + nI 1)]) (pc' := 135) iX11_beats_132 rfl rfl (Nat.le_of_ble_eq_true rfl) (by decide) rfl ?_
        refine At_goto (t := 90) iX11_beats_135 (by decide) ?_
        exact hv
set_option maxRecDepth 20000 in
theorem b_X11_beats_138 {d : Nat} {T : HT} (hL : Lay T) {h : Hp} (eT : h.2.2 = T) (x1 : Int32) (x2 : Int32) (x3 : Int32) (x4 : Int32) (x5 : Int32)  {Q : Option Value → Hp → Prop} (hv : (inB x5 202 = true) ∧ ((((gI h 75 x5.toNatClampNeg) = x2) → (L_X11_beats_138 d x1 x2 x3 x4 (x5 + nI 1) h Q)) ∧ (¬ ((gI h 75 x5.toNatClampNeg) = x2) → ((inB x4 200 = true) ∧ ((inB x5 202 = true) ∧ ((inB x5 202 = true) ∧ (((x3 < x5) → (L_X11_beats_46 d x1 x2 x5 (x4 + nI 1) (sI (sI h 74 x4.toNatClampNeg x5) 75 x5.toNatClampNeg ((gI (sI h 74 x4.toNatClampNeg x5) 75 x5.toNatClampNeg) + (nI 1))) Q)) ∧ (¬ (x3 < x5) → (L_X11_beats_46 d x1 x2 x3 (x4 + nI 1) (sI (sI h 74 x4.toNatClampNeg x5) 75 x5.toNatClampNeg ((gI (sI h 74 x4.toNatClampNeg x5) 75 x5.toNatClampNeg) + (nI 1))) Q))))))))) : L_X11_beats_138 d x1 x2 x3 x4 x5 h Q := by
  intro v6
  refine At_aload_n (pc' := 139) iX11_beats_138 rfl rfl ?_
  refine At_getR (pc' := 142) iX11_beats_139 rfl f_11_59 (kdK eT (kd_59 hL)) (by decide) (rfH eT (rf_59_28 hL)) ?_
  refine At_iload (pc' := 144) iX11_beats_142 rfl rfl ?_
  obtain ⟨hn1, hv⟩ := hv
  refine At_iald (pc' := 145) iX11_beats_144 rfl (kdH eT (kd_75 hL)) hn1 (show At (d + 3) MX11_beats 145 [.ref 59, .int x1, .int x2, .int x3, .int x4, .int x5, v6] [.int (gI h 75 x5.toNatClampNeg)] h Q from ?_)
  refine At_iload_n (pc' := 146) iX11_beats_145 rfl rfl ?_
  refine At_icmp_ne (t := 155) (pc' := 149) iX11_beats_146 (by decide) rfl (fun c146 => ?_) (fun c146 => ?_)
  · have hv := hv.2 c146
    refine At_aload_n (pc' := 156) iX11_beats_155 rfl rfl ?_
    refine At_getR (pc' := 159) iX11_beats_156 rfl f_11_56 (kdK eT (kd_59 hL)) (by decide) (rfH eT (rf_59_27 hL)) ?_
    refine At_iload (pc' := 161) iX11_beats_159 rfl rfl ?_
    refine At_iload (pc' := 163) iX11_beats_161 rfl rfl ?_
    obtain ⟨hn2, hv⟩ := hv
    refine At_iast (pc' := 164) iX11_beats_163 rfl (kdH eT (kd_74 hL)) hn2 (show At (d + 3) MX11_beats 164 [.ref 59, .int x1, .int x2, .int x3, .int x4, .int x5, v6] [] (sI h 74 x4.toNatClampNeg x5) Q from ?_)
    refine At_aload_n (pc' := 165) iX11_beats_164 rfl rfl ?_
    refine At_getR (pc' := 168) iX11_beats_165 rfl f_11_59 (kdK eT (kd_59 hL)) (by decide) (rfH eT (rf_59_28 hL)) ?_
    refine At_iload (pc' := 170) iX11_beats_168 rfl rfl ?_
    refine At_dup2 (pc' := 171) iX11_beats_170 rfl rfl rfl ?_
    obtain ⟨hn3, hv⟩ := hv
    refine At_iald (pc' := 172) iX11_beats_171 rfl (kdH eT (kd_75 hL)) hn3 (show At (d + 3) MX11_beats 172 [.ref 59, .int x1, .int x2, .int x3, .int x4, .int x5, v6] [.int (gI (sI h 74 x4.toNatClampNeg x5) 75 x5.toNatClampNeg), .int x5, .ref 75] (sI h 74 x4.toNatClampNeg x5) Q from ?_)
    refine At_iconst (v := nI 1) (pc' := 173) iX11_beats_172 rfl (by decide) ?_
    refine At_iadd (pc' := 174) iX11_beats_173 rfl ?_
    obtain ⟨hn4, hv⟩ := hv
    refine At_iast (pc' := 175) iX11_beats_174 rfl (kdH eT (kd_75 hL)) hn4 (show At (d + 3) MX11_beats 175 [.ref 59, .int x1, .int x2, .int x3, .int x4, .int x5, v6] [] (sI (sI h 74 x4.toNatClampNeg x5) 75 x5.toNatClampNeg ((gI (sI h 74 x4.toNatClampNeg x5) 75 x5.toNatClampNeg) + (nI 1))) Q from ?_)
    refine At_iload (pc' := 177) iX11_beats_175 rfl rfl ?_
    refine At_iload_n (pc' := 178) iX11_beats_177 rfl rfl ?_
    refine At_icmp_le (t := 186) (pc' := 181) iX11_beats_178 (by decide) rfl (fun c178 => ?_) (fun c178 => ?_)
    · have hv := hv.2 c178
      refine At_iload_n (pc' := 187) iX11_beats_186 rfl rfl ?_
      refine At_istore_n (L' := [.ref 59, .int x1, .int x2, .int x3, .int x4, .int x5, v6]) (pc' := 188) iX11_beats_187 rfl (Nat.le_of_ble_eq_true rfl) rfl ?_
      refine At_iinc (v := nI 1) (L' := [.ref 59, .int x1, .int x2, .int x3, .int (x4 + nI 1), .int x5, v6]) (pc' := 191) iX11_beats_188 rfl rfl (Nat.le_of_ble_eq_true rfl) (by decide) rfl ?_
      refine At_goto (t := 46) iX11_beats_191 (by decide) ?_
      exact hv _ _
    · have hv := hv.1 c178
      refine At_iload (pc' := 183) iX11_beats_181 rfl rfl ?_
      refine At_goto (t := 187) iX11_beats_183 (by decide) ?_
      refine At_istore_n (L' := [.ref 59, .int x1, .int x2, .int x5, .int x4, .int x5, v6]) (pc' := 188) iX11_beats_187 rfl (Nat.le_of_ble_eq_true rfl) rfl ?_
      refine At_iinc (v := nI 1) (L' := [.ref 59, .int x1, .int x2, .int x5, .int (x4 + nI 1), .int x5, v6]) (pc' := 191) iX11_beats_188 rfl rfl (Nat.le_of_ble_eq_true rfl) (by decide) rfl ?_
      refine At_goto (t := 46) iX11_beats_191 (by decide) ?_
      exact hv _ _
  · have hv := hv.1 c146
    refine At_iinc (v := nI 1) (L' := [.ref 59, .int x1, .int x2, .int x3, .int x4, .int (x5 + nI 1), v6]) (pc' := 152) iX11_beats_149 rfl rfl (Nat.le_of_ble_eq_true rfl) (by decide) rfl ?_
    refine At_goto (t := 138) iX11_beats_152 (by decide) ?_
    exact hv _
-- X11_fewest (calls X11_laysFar)
def L_X11_fewest_33 (d : Nat) (x1 : Int32) (x2 : Int32) (x3 : Int32) (x4 : Int32) (h : Hp) (Q : Option Value → Hp → Prop) : Prop := ∀ v5 v6 : Value, At (d + 3) MX11_fewest 33 [.ref 59, .int x1, .int x2, .int x3, .int x4, v5, v6] [] h Q
def L_X11_fewest_92 (d : Nat) (x1 : Int32) (x2 : Int32) (x3 : Int32) (x4 : Int32) (x5 : Int32) (h : Hp) (Q : Option Value → Hp → Prop) : Prop := ∀ v6 : Value, At (d + 3) MX11_fewest 92 [.ref 59, .int x1, .int x2, .int x3, .int x4, .int x5, v6] [] h Q
def L_X11_fewest_106 (d : Nat) (x1 : Int32) (x2 : Int32) (x3 : Int32) (x4 : Int32) (x5 : Int32) (x6 : Int32) (h : Hp) (Q : Option Value → Hp → Prop) : Prop := At (d + 3) MX11_fewest 106 [.ref 59, .int x1, .int x2, .int x3, .int x4, .int x5, .int x6] [] h Q
set_option maxRecDepth 20000 in
theorem b_X11_fewest {d : Nat} {T : HT} (hL : Lay T) {h : Hp} (eT : h.2.2 = T) (x1 : Int32)  {Q : Option Value → Hp → Prop} (hv : (((r_X11_isIn x1 (nI 0) (nI 2)) = true) → ((((nI 7) < (gI h 60 0)) → (Q (some (.int (-1))) h)) ∧ (¬ ((nI 7) < (gI h 60 0)) → (CallV (d + 2) MX11_laysFar [.ref 59] h (fun h25 => h25.2.2 = T ∧ (L_X11_fewest_33 d x1 (gI h 60 0) (nI 0) (nI 0) h25 Q)))))) ∧ (¬ ((r_X11_isIn x1 (nI 0) (nI 2)) = true) → (Q (some (.int (-1))) h))) : Call (d + 3) MX11_fewest [.ref 59, .int x1] h Q := by
  show At (d + 3) MX11_fewest 0 [.ref 59, .int x1, un, un, un, un, un] [] h Q
  refine At_aload_n (pc' := 1) iX11_fewest_0 rfl rfl ?_
  refine At_getR (pc' := 4) iX11_fewest_1 rfl f_11_7 (kdK eT (kd_59 hL)) (by decide) (rfH eT (rf_59_0 hL)) ?_
  refine At_iconst (v := nI 0) (pc' := 5) iX11_fewest_4 rfl (by decide) ?_
  refine At_iald (pc' := 6) iX11_fewest_5 rfl (kdH eT (kd_60 hL)) (by decide) (show At (d + 3) MX11_fewest 6 [.ref 59, .int x1, un, un, un, un, un] [.int (gI h 60 0)] h Q from ?_)
  refine At_istore_n (L' := [.ref 59, .int x1, .int (gI h 60 0), un, un, un, un]) (pc' := 7) iX11_fewest_6 rfl (Nat.le_of_ble_eq_true rfl) rfl ?_
  refine At_iload_n (pc' := 8) iX11_fewest_7 rfl rfl ?_
  refine At_iconst (v := nI 0) (pc' := 9) iX11_fewest_8 rfl (by decide) ?_
  refine At_iconst (v := nI 2) (pc' := 10) iX11_fewest_9 rfl (by decide) ?_
  refine At_stat (pc' := 13) iX11_fewest_10 rfl m_11_72 rfl rfl (Nat.le_of_ble_eq_true rfl) (Nat.le_of_ble_eq_true rfl) (Nat.le_of_ble_eq_true rfl) ?_
  refine c_X11_isIn (h := h) x1 (nI 0) (nI 2)   (show At (d + 3) MX11_fewest 13 [.ref 59, .int x1, .int (gI h 60 0), un, un, un, un] [.int (b2i (r_X11_isIn x1 (nI 0) (nI 2)))] h Q from ?_)
  refine At_zeq (t := 22) (pc' := 16) iX11_fewest_13 (by decide) rfl (fun c13 => ?_) (fun c13 => ?_)
  · have hv := hv.2 c13
    refine At_iconst (v := (-1)) (pc' := 23) iX11_fewest_22 rfl (by decide) ?_
    exact At_retI iX11_fewest_23 rfl hv
  · have hv := hv.1 c13
    refine At_iload_n (pc' := 17) iX11_fewest_16 rfl rfl ?_
    refine At_bipush (v := nI 7) (pc' := 19) iX11_fewest_17 rfl (by decide) ?_
    refine At_icmp_le (t := 24) (pc' := 22) iX11_fewest_19 (by decide) rfl (fun c19 => ?_) (fun c19 => ?_)
    · have hv := hv.2 c19
      refine At_aload_n (pc' := 25) iX11_fewest_24 rfl rfl ?_
      refine At_virt (pc' := 28) iX11_fewest_25 rfl m_11_242 rfl rfl (kdK eT (kd_59 hL)) (Nat.le_of_ble_eq_true rfl) (Nat.le_of_ble_eq_true rfl) ?_
      refine At.mono (show CallV (d + 2) MX11_laysFar [.ref 59] h _ from hv) ?_
      rintro _ h25 ⟨rfl, eT25, hv⟩
      show At (d + 3) MX11_fewest 28 [.ref 59, .int x1, .int (gI h 60 0), un, un, un, un] [] h25 Q
      refine At_iconst (v := nI 0) (pc' := 29) iX11_fewest_28 rfl (by decide) ?_
      refine At_istore_n (L' := [.ref 59, .int x1, .int (gI h 60 0), .int (nI 0), un, un, un]) (pc' := 30) iX11_fewest_29 rfl (Nat.le_of_ble_eq_true rfl) rfl ?_
      refine At_iconst (v := nI 0) (pc' := 31) iX11_fewest_30 rfl (by decide) ?_
      refine At_istore (L' := [.ref 59, .int x1, .int (gI h 60 0), .int (nI 0), .int (nI 0), un, un]) (pc' := 33) iX11_fewest_31 rfl (Nat.le_of_ble_eq_true rfl) rfl ?_
      exact hv _ _
    · have hv := hv.1 c19
      refine At_iconst (v := (-1)) (pc' := 23) iX11_fewest_22 rfl (by decide) ?_
      exact At_retI iX11_fewest_23 rfl hv
set_option maxRecDepth 20000 in
theorem b_X11_fewest_33 {d : Nat} {T : HT} (hL : Lay T) {h : Hp} (eT : h.2.2 = T) (x1 : Int32) (x2 : Int32) (x3 : Int32) (x4 : Int32)  {Q : Option Value → Hp → Prop} (hv : ((x4 < x2) → ((inB ((nI 42) + x4) 4180 = true) ∧ ((inB ((nI 10) + (gI h 60 (((nI 42) + x4).toNatClampNeg))) 4180 = true) ∧ (L_X11_fewest_33 d x1 x2 (((nI 10) * x3) + (gI h 60 (((nI 10) + (gI h 60 (((nI 42) + x4).toNatClampNeg))).toNatClampNeg))) (x4 + nI 1) h Q)))) ∧ (¬ (x4 < x2) → (CallI (d + 2) MX11_farOf [.ref 59, .int x3] h (fun r71 h71 => h71.2.2 = T ∧ (((r71 = (-1)) → (Q (some (.int r71)) h71)) ∧ (¬ (r71 = (-1)) → (((x1 = 0) → (Q (some (.int r71)) h71)) ∧ (¬ (x1 = 0) → (L_X11_fewest_92 d x1 x2 x3 r71 (nI 0) h71 Q))))))))) : L_X11_fewest_33 d x1 x2 x3 x4 h Q := by
  intro v5 v6
  refine At_iload (pc' := 35) iX11_fewest_33 rfl rfl ?_
  refine At_iload_n (pc' := 36) iX11_fewest_35 rfl rfl ?_
  refine At_icmp_ge (t := 69) (pc' := 39) iX11_fewest_36 (by decide) rfl (fun c36 => ?_) (fun c36 => ?_)
  · have hv := hv.2 c36
    refine At_aload_n (pc' := 70) iX11_fewest_69 rfl rfl ?_
    refine At_iload_n (pc' := 71) iX11_fewest_70 rfl rfl ?_
    refine At_virt (pc' := 74) iX11_fewest_71 rfl m_11_245 rfl rfl (kdK eT (kd_59 hL)) (Nat.le_of_ble_eq_true rfl) (Nat.le_of_ble_eq_true rfl) ?_
    refine At.mono (show CallI (d + 2) MX11_farOf [.ref 59, .int x3] h _ from hv) ?_
    rintro _ h71 ⟨r71, rfl, eT71, hv⟩
    show At (d + 3) MX11_fewest 74 [.ref 59, .int x1, .int x2, .int x3, .int x4, v5, v6] [.int r71] h71 Q
    refine At_istore (L' := [.ref 59, .int x1, .int x2, .int x3, .int r71, v5, v6]) (pc' := 76) iX11_fewest_74 rfl (Nat.le_of_ble_eq_true rfl) rfl ?_
    refine At_iload (pc' := 78) iX11_fewest_76 rfl rfl ?_
    refine At_iconst (v := (-1)) (pc' := 79) iX11_fewest_78 rfl (by decide) ?_
    refine At_icmp_eq (t := 86) (pc' := 82) iX11_fewest_79 (by decide) rfl (fun c79 => ?_) (fun c79 => ?_)
    · have hv := hv.1 c79
      refine At_iload (pc' := 88) iX11_fewest_86 rfl rfl ?_
      exact At_retI iX11_fewest_88 rfl hv
    · have hv := hv.2 c79
      refine At_iload_n (pc' := 83) iX11_fewest_82 rfl rfl ?_
      refine At_if_ne (t := 89) (pc' := 86) iX11_fewest_83 (by decide) rfl (fun c83 => ?_) (fun c83 => ?_)
      · have hv := hv.2 c83
        refine At_iconst (v := nI 0) (pc' := 90) iX11_fewest_89 rfl (by decide) ?_
        refine At_istore (L' := [.ref 59, .int x1, .int x2, .int x3, .int r71, .int (nI 0), v6]) (pc' := 92) iX11_fewest_90 rfl (Nat.le_of_ble_eq_true rfl) rfl ?_
        exact hv _
      · have hv := hv.1 c83
        refine At_iload (pc' := 88) iX11_fewest_86 rfl rfl ?_
        exact At_retI iX11_fewest_88 rfl hv
  · have hv := hv.1 c36
    refine At_bipush (v := nI 10) (pc' := 41) iX11_fewest_39 rfl (by decide) ?_
    refine At_iload_n (pc' := 42) iX11_fewest_41 rfl rfl ?_
    refine At_imul (pc' := 43) iX11_fewest_42 rfl ?_
    refine At_aload_n (pc' := 44) iX11_fewest_43 rfl rfl ?_
    refine At_getR (pc' := 47) iX11_fewest_44 rfl f_11_7 (kdK eT (kd_59 hL)) (by decide) (rfH eT (rf_59_0 hL)) ?_
    refine At_bipush (v := nI 10) (pc' := 49) iX11_fewest_47 rfl (by decide) ?_
    refine At_aload_n (pc' := 50) iX11_fewest_49 rfl rfl ?_
    refine At_getR (pc' := 53) iX11_fewest_50 rfl f_11_7 (kdK eT (kd_59 hL)) (by decide) (rfH eT (rf_59_0 hL)) ?_
    refine At_bipush (v := nI 42) (pc' := 55) iX11_fewest_53 rfl (by decide) ?_
    refine At_iload (pc' := 57) iX11_fewest_55 rfl rfl ?_
    refine At_iadd (pc' := 58) iX11_fewest_57 rfl ?_
    obtain ⟨hn1, hv⟩ := hv
    refine At_iald (pc' := 59) iX11_fewest_58 rfl (kdH eT (kd_60 hL)) hn1 (show At (d + 3) MX11_fewest 59 [.ref 59, .int x1, .int x2, .int x3, .int x4, v5, v6] [.int (gI h 60 (((nI 42) + x4).toNatClampNeg)), .int (nI 10), .ref 60, .int ((nI 10) * x3)] h Q from ?_)
    refine At_iadd (pc' := 60) iX11_fewest_59 rfl ?_
    obtain ⟨hn2, hv⟩ := hv
    refine At_iald (pc' := 61) iX11_fewest_60 rfl (kdH eT (kd_60 hL)) hn2 (show At (d + 3) MX11_fewest 61 [.ref 59, .int x1, .int x2, .int x3, .int x4, v5, v6] [.int (gI h 60 (((nI 10) + (gI h 60 (((nI 42) + x4).toNatClampNeg))).toNatClampNeg)), .int ((nI 10) * x3)] h Q from ?_)
    refine At_iadd (pc' := 62) iX11_fewest_61 rfl ?_
    refine At_istore_n (L' := [.ref 59, .int x1, .int x2, .int (((nI 10) * x3) + (gI h 60 (((nI 10) + (gI h 60 (((nI 42) + x4).toNatClampNeg))).toNatClampNeg))), .int x4, v5, v6]) (pc' := 63) iX11_fewest_62 rfl (Nat.le_of_ble_eq_true rfl) rfl ?_
    refine At_iinc (v := nI 1) (L' := [.ref 59, .int x1, .int x2, .int (((nI 10) * x3) + (gI h 60 (((nI 10) + (gI h 60 (((nI 42) + x4).toNatClampNeg))).toNatClampNeg))), .int (x4 + nI 1), v5, v6]) (pc' := 66) iX11_fewest_63 rfl rfl (Nat.le_of_ble_eq_true rfl) (by decide) rfl ?_
    refine At_goto (t := 33) iX11_fewest_66 (by decide) ?_
    exact hv _ _
set_option maxRecDepth 20000 in
theorem b_X11_fewest_92 {d : Nat} {T : HT} (hL : Lay T) {h : Hp} (eT : h.2.2 = T) (x1 : Int32) (x2 : Int32) (x3 : Int32) (x4 : Int32) (x5 : Int32)  {Q : Option Value → Hp → Prop} (hv : ((x5 < x2) → (((0 < x4) → (L_X11_fewest_106 d x1 x2 x3 x4 x5 (nI 0) h Q)) ∧ (¬ (0 < x4) → (Q (some (.int (-1))) h)))) ∧ (¬ (x5 < x2) → (Q (some (.int (-1))) h))) : L_X11_fewest_92 d x1 x2 x3 x4 x5 h Q := by
  intro v6
  refine At_iload (pc' := 94) iX11_fewest_92 rfl rfl ?_
  refine At_iload_n (pc' := 95) iX11_fewest_94 rfl rfl ?_
  refine At_icmp_ge (t := 164) (pc' := 98) iX11_fewest_95 (by decide) rfl (fun c95 => ?_) (fun c95 => ?_)
  · have hv := hv.2 c95
    refine At_iconst (v := (-1)) (pc' := 165) iX11_fewest_164 rfl (by decide) ?_
    exact At_retI iX11_fewest_165 rfl hv
  · have hv := hv.1 c95
    refine At_iload (pc' := 100) iX11_fewest_98 rfl rfl ?_
    refine At_if_le (t := 164) (pc' := 103) iX11_fewest_100 (by decide) rfl (fun c100 => ?_) (fun c100 => ?_)
    · have hv := hv.2 c100
      refine At_iconst (v := (-1)) (pc' := 165) iX11_fewest_164 rfl (by decide) ?_
      exact At_retI iX11_fewest_165 rfl hv
    · have hv := hv.1 c100
      refine At_iconst (v := nI 0) (pc' := 104) iX11_fewest_103 rfl (by decide) ?_
      refine At_istore (L' := [.ref 59, .int x1, .int x2, .int x3, .int x4, .int x5, .int (nI 0)]) (pc' := 106) iX11_fewest_104 rfl (Nat.le_of_ble_eq_true rfl) rfl ?_
      exact hv
set_option maxRecDepth 20000 in
theorem b_X11_fewest_106 {d : Nat} {T : HT} (hL : Lay T) {h : Hp} (eT : h.2.2 = T) (x1 : Int32) (x2 : Int32) (x3 : Int32) (x4 : Int32) (x5 : Int32) (x6 : Int32)  {Q : Option Value → Hp → Prop} (hv : ((x6 < x2) → (((x5 = x6) → (L_X11_fewest_106 d x1 x2 x3 x4 x5 (x6 + nI 1) h Q)) ∧ (¬ (x5 = x6) → (CallI (d + 2) MX11_liftedOf [.ref 59, .int x3, .int x5, .int x6] h (fun r126 h126 => h126.2.2 = T ∧ (CallI (d + 2) MX11_farOf [.ref 59, .int r126] h126 (fun r129 h129 => h129.2.2 = T ∧ (((r129 = (x4 - (nI 1))) → (((x1 = (nI 1)) → (Q (some (.int x5)) h129)) ∧ (¬ (x1 = (nI 1)) → (Q (some (.int x6)) h129)))) ∧ (¬ (r129 = (x4 - (nI 1))) → (L_X11_fewest_106 d x1 x2 x3 x4 x5 (x6 + nI 1) h129 Q)))))))))) ∧ (¬ (x6 < x2) → (L_X11_fewest_92 d x1 x2 x3 x4 (x5 + nI 1) h Q))) : L_X11_fewest_106 d x1 x2 x3 x4 x5 x6 h Q := by
  refine At_iload (pc' := 108) iX11_fewest_106 rfl rfl ?_
  refine At_iload_n (pc' := 109) iX11_fewest_108 rfl rfl ?_
  refine At_icmp_ge (t := 158) (pc' := 112) iX11_fewest_109 (by decide) rfl (fun c109 => ?_) (fun c109 => ?_)
  · have hv := hv.2 c109
    refine At_iinc (v := nI 1) (L' := [.ref 59, .int x1, .int x2, .int x3, .int x4, .int (x5 + nI 1), .int x6]) (pc' := 161) iX11_fewest_158 rfl rfl (Nat.le_of_ble_eq_true rfl) (by decide) rfl ?_
    refine At_goto (t := 92) iX11_fewest_161 (by decide) ?_
    exact hv _
  · have hv := hv.1 c109
    refine At_iload (pc' := 114) iX11_fewest_112 rfl rfl ?_
    refine At_iload (pc' := 116) iX11_fewest_114 rfl rfl ?_
    refine At_icmp_eq (t := 152) (pc' := 119) iX11_fewest_116 (by decide) rfl (fun c116 => ?_) (fun c116 => ?_)
    · have hv := hv.1 c116
      refine At_iinc (v := nI 1) (L' := [.ref 59, .int x1, .int x2, .int x3, .int x4, .int x5, .int (x6 + nI 1)]) (pc' := 155) iX11_fewest_152 rfl rfl (Nat.le_of_ble_eq_true rfl) (by decide) rfl ?_
      refine At_goto (t := 106) iX11_fewest_155 (by decide) ?_
      exact hv
    · have hv := hv.2 c116
      refine At_aload_n (pc' := 120) iX11_fewest_119 rfl rfl ?_
      refine At_aload_n (pc' := 121) iX11_fewest_120 rfl rfl ?_
      refine At_iload_n (pc' := 122) iX11_fewest_121 rfl rfl ?_
      refine At_iload (pc' := 124) iX11_fewest_122 rfl rfl ?_
      refine At_iload (pc' := 126) iX11_fewest_124 rfl rfl ?_
      refine At_virt (pc' := 129) iX11_fewest_126 rfl m_11_239 rfl rfl (kdK eT (kd_59 hL)) (Nat.le_of_ble_eq_true rfl) (Nat.le_of_ble_eq_true rfl) ?_
      refine At.mono (show CallI (d + 2) MX11_liftedOf [.ref 59, .int x3, .int x5, .int x6] h _ from hv) ?_
      rintro _ h126 ⟨r126, rfl, eT126, hv⟩
      show At (d + 3) MX11_fewest 129 [.ref 59, .int x1, .int x2, .int x3, .int x4, .int x5, .int x6] [.int r126, .ref 59] h126 Q
      refine At_virt (pc' := 132) iX11_fewest_129 rfl m_11_245 rfl rfl (kdK eT126 (kd_59 hL)) (Nat.le_of_ble_eq_true rfl) (Nat.le_of_ble_eq_true rfl) ?_
      refine At.mono (show CallI (d + 2) MX11_farOf [.ref 59, .int r126] h126 _ from hv) ?_
      rintro _ h129 ⟨r129, rfl, eT129, hv⟩
      show At (d + 3) MX11_fewest 132 [.ref 59, .int x1, .int x2, .int x3, .int x4, .int x5, .int x6] [.int r129] h129 Q
      refine At_iload (pc' := 134) iX11_fewest_132 rfl rfl ?_
      refine At_iconst (v := nI 1) (pc' := 135) iX11_fewest_134 rfl (by decide) ?_
      refine At_isub (pc' := 136) iX11_fewest_135 rfl ?_
      refine At_icmp_ne (t := 152) (pc' := 139) iX11_fewest_136 (by decide) rfl (fun c136 => ?_) (fun c136 => ?_)
      · have hv := hv.2 c136
        refine At_iinc (v := nI 1) (L' := [.ref 59, .int x1, .int x2, .int x3, .int x4, .int x5, .int (x6 + nI 1)]) (pc' := 155) iX11_fewest_152 rfl rfl (Nat.le_of_ble_eq_true rfl) (by decide) rfl ?_
        refine At_goto (t := 106) iX11_fewest_155 (by decide) ?_
        exact hv
      · have hv := hv.1 c136
        refine At_iload_n (pc' := 140) iX11_fewest_139 rfl rfl ?_
        refine At_iconst (v := nI 1) (pc' := 141) iX11_fewest_140 rfl (by decide) ?_
        refine At_icmp_ne (t := 149) (pc' := 144) iX11_fewest_141 (by decide) rfl (fun c141 => ?_) (fun c141 => ?_)
        · have hv := hv.2 c141
          refine At_iload (pc' := 151) iX11_fewest_149 rfl rfl ?_
          exact At_retI iX11_fewest_151 rfl hv
        · have hv := hv.1 c141
          refine At_iload (pc' := 146) iX11_fewest_144 rfl rfl ?_
          refine At_goto (t := 151) iX11_fewest_146 (by decide) ?_
          exact At_retI iX11_fewest_151 rfl hv
-- X11_lay (loop)
def L_X11_lay_13 (d : Nat) (x1 : Int32) (x2 : Int32) (x3 : Int32) (h : Hp) (Q : Option Value → Hp → Prop) : Prop := ∀ v4 v5 v6 v7 : Value, At (d + 3) MX11_lay 13 [.ref 59, .int x1, .int x2, .int x3, v4, v5, v6, v7] [] h Q
def L_X11_lay_45 (d : Nat) (x1 : Int32) (x2 : Int32) (x3 : Int32) (h : Hp) (Q : Option Value → Hp → Prop) : Prop := ∀ v4 v5 v6 v7 : Value, At (d + 3) MX11_lay 45 [.ref 59, .int x1, .int x2, .int x3, v4, v5, v6, v7] [] h Q
def L_X11_lay_73 (d : Nat) (x1 : Int32) (x2 : Int32) (x3 : Int32) (x4 : Int32) (h : Hp) (Q : Option Value → Hp → Prop) : Prop := ∀ v5 v6 v7 : Value, At (d + 3) MX11_lay 73 [.ref 59, .int x1, .int x2, .int x3, .int x4, v5, v6, v7] [] h Q
def L_X11_lay_216 (d : Nat) (x4 : Int32) (x5 : Int32) (h : Hp) (Q : Option Value → Hp → Prop) : Prop := ∀ v1 v2 v3 v6 v7 : Value, At (d + 3) MX11_lay 216 [.ref 59, v1, v2, v3, .int x4, .int x5, v6, v7] [] h Q
def L_X11_lay_88 (d : Nat) (x1 : Int32) (x2 : Int32) (x3 : Int32) (x4 : Int32) (x5 : Int32) (h : Hp) (Q : Option Value → Hp → Prop) : Prop := ∀ v6 v7 : Value, At (d + 3) MX11_lay 88 [.ref 59, .int x1, .int x2, .int x3, .int x4, .int x5, v6, v7] [] h Q
set_option maxRecDepth 20000 in
theorem b_X11_lay {d : Nat} {T : HT} (hL : Lay T) {h : Hp} (eT : h.2.2 = T) (x1 : Int32)  {Q : Option Value → Hp → Prop} (hv : (((r_X11_isSong x1) = true) → (L_X11_lay_13 d x1 (nI 0) (nI 0) h Q)) ∧ (¬ ((r_X11_isSong x1) = true) → (Q (some (.int (-1))) h))) : Call (d + 3) MX11_lay [.ref 59, .int x1] h Q := by
  show At (d + 3) MX11_lay 0 [.ref 59, .int x1, un, un, un, un, un, un] [] h Q
  refine At_iload_n (pc' := 1) iX11_lay_0 rfl rfl ?_
  refine At_stat (pc' := 4) iX11_lay_1 rfl m_11_178 rfl rfl (Nat.le_of_ble_eq_true rfl) (Nat.le_of_ble_eq_true rfl) (Nat.le_of_ble_eq_true rfl) ?_
  refine c_X11_isSong (h := h) x1   (show At (d + 3) MX11_lay 4 [.ref 59, .int x1, un, un, un, un, un, un] [.int (b2i (r_X11_isSong x1))] h Q from ?_)
  refine At_zne (t := 9) (pc' := 7) iX11_lay_4 (by decide) rfl (fun c4 => ?_) (fun c4 => ?_)
  · have hv := hv.1 c4
    refine At_iconst (v := nI 0) (pc' := 10) iX11_lay_9 rfl (by decide) ?_
    refine At_istore_n (L' := [.ref 59, .int x1, .int (nI 0), un, un, un, un, un]) (pc' := 11) iX11_lay_10 rfl (Nat.le_of_ble_eq_true rfl) rfl ?_
    refine At_iconst (v := nI 0) (pc' := 12) iX11_lay_11 rfl (by decide) ?_
    refine At_istore_n (L' := [.ref 59, .int x1, .int (nI 0), .int (nI 0), un, un, un, un]) (pc' := 13) iX11_lay_12 rfl (Nat.le_of_ble_eq_true rfl) rfl ?_
    exact hv _ _ _ _
  · have hv := hv.2 c4
    refine At_iconst (v := (-1)) (pc' := 8) iX11_lay_7 rfl (by decide) ?_
    exact At_retI iX11_lay_8 rfl hv
set_option maxRecDepth 20000 in
theorem b_X11_lay_13 {d : Nat} {T : HT} (hL : Lay T) {h : Hp} (eT : h.2.2 = T) (x1 : Int32) (x2 : Int32) (x3 : Int32)  {Q : Option Value → Hp → Prop} (hv : ((x3 < (nI 30)) → ((inB ((nI 940) + x3) 4180 = true) ∧ ((((gI h 60 (((nI 940) + x3).toNatClampNeg)) = (-1)) → (L_X11_lay_13 d x1 x2 (x3 + nI 1) h Q)) ∧ (¬ ((gI h 60 (((nI 940) + x3).toNatClampNeg)) = (-1)) → (L_X11_lay_13 d x1 (x3 + (nI 1)) (x3 + nI 1) h Q))))) ∧ (¬ (x3 < (nI 30)) → (L_X11_lay_45 d x1 x2 (nI 0) h Q))) : L_X11_lay_13 d x1 x2 x3 h Q := by
  intro v4 v5 v6 v7
  refine At_iload_n (pc' := 14) iX11_lay_13 rfl rfl ?_
  refine At_bipush (v := nI 30) (pc' := 16) iX11_lay_14 rfl (by decide) ?_
  refine At_icmp_ge (t := 43) (pc' := 19) iX11_lay_16 (by decide) rfl (fun c16 => ?_) (fun c16 => ?_)
  · have hv := hv.2 c16
    refine At_iconst (v := nI 0) (pc' := 44) iX11_lay_43 rfl (by decide) ?_
    refine At_istore_n (L' := [.ref 59, .int x1, .int x2, .int (nI 0), v4, v5, v6, v7]) (pc' := 45) iX11_lay_44 rfl (Nat.le_of_ble_eq_true rfl) rfl ?_
    exact hv _ _ _ _
  · have hv := hv.1 c16
    refine At_aload_n (pc' := 20) iX11_lay_19 rfl rfl ?_
    refine At_getR (pc' := 23) iX11_lay_20 rfl f_11_7 (kdK eT (kd_59 hL)) (by decide) (rfH eT (rf_59_0 hL)) ?_
    refine At_sipush (v := nI 940) (pc' := 26) iX11_lay_23 rfl (by decide) ?_
    refine At_iload_n (pc' := 27) iX11_lay_26 rfl rfl ?_
    refine At_iadd (pc' := 28) iX11_lay_27 rfl ?_
    obtain ⟨hn1, hv⟩ := hv
    refine At_iald (pc' := 29) iX11_lay_28 rfl (kdH eT (kd_60 hL)) hn1 (show At (d + 3) MX11_lay 29 [.ref 59, .int x1, .int x2, .int x3, v4, v5, v6, v7] [.int (gI h 60 (((nI 940) + x3).toNatClampNeg))] h Q from ?_)
    refine At_iconst (v := (-1)) (pc' := 30) iX11_lay_29 rfl (by decide) ?_
    refine At_icmp_eq (t := 37) (pc' := 33) iX11_lay_30 (by decide) rfl (fun c30 => ?_) (fun c30 => ?_)
    · have hv := hv.1 c30
      refine At_iinc (v := nI 1) (L' := [.ref 59, .int x1, .int x2, .int (x3 + nI 1), v4, v5, v6, v7]) (pc' := 40) iX11_lay_37 rfl rfl (Nat.le_of_ble_eq_true rfl) (by decide) rfl ?_
      refine At_goto (t := 13) iX11_lay_40 (by decide) ?_
      exact hv _ _ _ _
    · have hv := hv.2 c30
      refine At_iload_n (pc' := 34) iX11_lay_33 rfl rfl ?_
      refine At_iconst (v := nI 1) (pc' := 35) iX11_lay_34 rfl (by decide) ?_
      refine At_iadd (pc' := 36) iX11_lay_35 rfl ?_
      refine At_istore_n (L' := [.ref 59, .int x1, .int (x3 + (nI 1)), .int x3, v4, v5, v6, v7]) (pc' := 37) iX11_lay_36 rfl (Nat.le_of_ble_eq_true rfl) rfl ?_
      refine At_iinc (v := nI 1) (L' := [.ref 59, .int x1, .int (x3 + (nI 1)), .int (x3 + nI 1), v4, v5, v6, v7]) (pc' := 40) iX11_lay_37 rfl rfl (Nat.le_of_ble_eq_true rfl) (by decide) rfl ?_
      refine At_goto (t := 13) iX11_lay_40 (by decide) ?_
      exact hv _ _ _ _
set_option maxRecDepth 20000 in
theorem b_X11_lay_45 {d : Nat} {T : HT} (hL : Lay T) {h : Hp} (eT : h.2.2 = T) (x1 : Int32) (x2 : Int32) (x3 : Int32)  {Q : Option Value → Hp → Prop} (hv : ((x3 < (nI 16)) → ((inB x3 16 = true) ∧ (L_X11_lay_45 d x1 x2 (x3 + nI 1) (sI h 76 x3.toNatClampNeg (-1)) Q))) ∧ (¬ (x3 < (nI 16)) → (CallV (d + 2) MX11_sitsAtFirst [.ref 59] h (fun h65 => h65.2.2 = T ∧ (L_X11_lay_73 d x1 x2 (nI 0) (nI 0) h65 Q))))) : L_X11_lay_45 d x1 x2 x3 h Q := by
  intro v4 v5 v6 v7
  refine At_iload_n (pc' := 46) iX11_lay_45 rfl rfl ?_
  refine At_bipush (v := nI 16) (pc' := 48) iX11_lay_46 rfl (by decide) ?_
  refine At_icmp_ge (t := 64) (pc' := 51) iX11_lay_48 (by decide) rfl (fun c48 => ?_) (fun c48 => ?_)
  · have hv := hv.2 c48
    refine At_aload_n (pc' := 65) iX11_lay_64 rfl rfl ?_
    refine At_virt (pc' := 68) iX11_lay_65 rfl m_11_248 rfl rfl (kdK eT (kd_59 hL)) (Nat.le_of_ble_eq_true rfl) (Nat.le_of_ble_eq_true rfl) ?_
    refine At.mono (show CallV (d + 2) MX11_sitsAtFirst [.ref 59] h _ from hv) ?_
    rintro _ h65 ⟨rfl, eT65, hv⟩
    show At (d + 3) MX11_lay 68 [.ref 59, .int x1, .int x2, .int x3, v4, v5, v6, v7] [] h65 Q
    refine At_iconst (v := nI 0) (pc' := 69) iX11_lay_68 rfl (by decide) ?_
    refine At_istore_n (L' := [.ref 59, .int x1, .int x2, .int (nI 0), v4, v5, v6, v7]) (pc' := 70) iX11_lay_69 rfl (Nat.le_of_ble_eq_true rfl) rfl ?_
    refine At_iconst (v := nI 0) (pc' := 71) iX11_lay_70 rfl (by decide) ?_
    refine At_istore (L' := [.ref 59, .int x1, .int x2, .int (nI 0), .int (nI 0), v5, v6, v7]) (pc' := 73) iX11_lay_71 rfl (Nat.le_of_ble_eq_true rfl) rfl ?_
    exact hv _ _ _
  · have hv := hv.1 c48
    refine At_aload_n (pc' := 52) iX11_lay_51 rfl rfl ?_
    refine At_getR (pc' := 55) iX11_lay_52 rfl f_11_62 (kdK eT (kd_59 hL)) (by decide) (rfH eT (rf_59_29 hL)) ?_
    refine At_iload_n (pc' := 56) iX11_lay_55 rfl rfl ?_
    refine At_iconst (v := (-1)) (pc' := 57) iX11_lay_56 rfl (by decide) ?_
    obtain ⟨hn1, hv⟩ := hv
    refine At_iast (pc' := 58) iX11_lay_57 rfl (kdH eT (kd_76 hL)) hn1 (show At (d + 3) MX11_lay 58 [.ref 59, .int x1, .int x2, .int x3, v4, v5, v6, v7] [] (sI h 76 x3.toNatClampNeg (-1)) Q from ?_)
    refine At_iinc (v := nI 1) (L' := [.ref 59, .int x1, .int x2, .int (x3 + nI 1), v4, v5, v6, v7]) (pc' := 61) iX11_lay_58 rfl rfl (Nat.le_of_ble_eq_true rfl) (by decide) rfl ?_
    refine At_goto (t := 45) iX11_lay_61 (by decide) ?_
    exact hv _ _ _ _
set_option maxRecDepth 20000 in
theorem b_X11_lay_73 {d : Nat} {T : HT} (hL : Lay T) {h : Hp} (eT : h.2.2 = T) (x1 : Int32) (x2 : Int32) (x3 : Int32) (x4 : Int32)  {Q : Option Value → Hp → Prop} (hv : ((x4 < (nI 60)) → (((x3 < x2) → (L_X11_lay_88 d x1 x2 x3 x4 (nI 0) h Q)) ∧ (¬ (x3 < x2) → (((x3 < x2) → (Q (some (.int (-1))) h)) ∧ (¬ (x3 < x2) → (L_X11_lay_216 d (nI 0) (nI 0) h Q)))))) ∧ (¬ (x4 < (nI 60)) → (((x3 < x2) → (Q (some (.int (-1))) h)) ∧ (¬ (x3 < x2) → (L_X11_lay_216 d (nI 0) (nI 0) h Q))))) : L_X11_lay_73 d x1 x2 x3 x4 h Q := by
  intro v5 v6 v7
  refine At_iload (pc' := 75) iX11_lay_73 rfl rfl ?_
  refine At_bipush (v := nI 60) (pc' := 77) iX11_lay_75 rfl (by decide) ?_
  refine At_icmp_ge (t := 203) (pc' := 80) iX11_lay_77 (by decide) rfl (fun c77 => ?_) (fun c77 => ?_)
  · have hv := hv.2 c77
    refine At_iload_n (pc' := 204) iX11_lay_203 rfl rfl ?_
    refine At_iload_n (pc' := 205) iX11_lay_204 rfl rfl ?_
    refine At_icmp_ge (t := 210) (pc' := 208) iX11_lay_205 (by decide) rfl (fun c205 => ?_) (fun c205 => ?_)
    · have hv := hv.2 c205
      refine At_iconst (v := nI 0) (pc' := 211) iX11_lay_210 rfl (by decide) ?_
      refine At_istore (L' := [.ref 59, .int x1, .int x2, .int x3, .int (nI 0), v5, v6, v7]) (pc' := 213) iX11_lay_211 rfl (Nat.le_of_ble_eq_true rfl) rfl ?_
      refine At_iconst (v := nI 0) (pc' := 214) iX11_lay_213 rfl (by decide) ?_
      refine At_istore (L' := [.ref 59, .int x1, .int x2, .int x3, .int (nI 0), .int (nI 0), v6, v7]) (pc' := 216) iX11_lay_214 rfl (Nat.le_of_ble_eq_true rfl) rfl ?_
      exact hv _ _ _ _ _
    · have hv := hv.1 c205
      refine At_iconst (v := (-1)) (pc' := 209) iX11_lay_208 rfl (by decide) ?_
      exact At_retI iX11_lay_209 rfl hv
  · have hv := hv.1 c77
    refine At_iload_n (pc' := 81) iX11_lay_80 rfl rfl ?_
    refine At_iload_n (pc' := 82) iX11_lay_81 rfl rfl ?_
    refine At_icmp_ge (t := 203) (pc' := 85) iX11_lay_82 (by decide) rfl (fun c82 => ?_) (fun c82 => ?_)
    · have hv := hv.2 c82
      refine At_iload_n (pc' := 204) iX11_lay_203 rfl rfl ?_
      refine At_iload_n (pc' := 205) iX11_lay_204 rfl rfl ?_
      refine At_icmp_ge (t := 210) (pc' := 208) iX11_lay_205 (by decide) rfl (fun c205 => ?_) (fun c205 => ?_)
      · have hv := hv.2 c205
        refine At_iconst (v := nI 0) (pc' := 211) iX11_lay_210 rfl (by decide) ?_
        refine At_istore (L' := [.ref 59, .int x1, .int x2, .int x3, .int (nI 0), v5, v6, v7]) (pc' := 213) iX11_lay_211 rfl (Nat.le_of_ble_eq_true rfl) rfl ?_
        refine At_iconst (v := nI 0) (pc' := 214) iX11_lay_213 rfl (by decide) ?_
        refine At_istore (L' := [.ref 59, .int x1, .int x2, .int x3, .int (nI 0), .int (nI 0), v6, v7]) (pc' := 216) iX11_lay_214 rfl (Nat.le_of_ble_eq_true rfl) rfl ?_
        exact hv _ _ _ _ _
      · have hv := hv.1 c205
        refine At_iconst (v := (-1)) (pc' := 209) iX11_lay_208 rfl (by decide) ?_
        exact At_retI iX11_lay_209 rfl hv
    · have hv := hv.1 c82
      refine At_iconst (v := nI 0) (pc' := 86) iX11_lay_85 rfl (by decide) ?_
      refine At_istore (L' := [.ref 59, .int x1, .int x2, .int x3, .int x4, .int (nI 0), v6, v7]) (pc' := 88) iX11_lay_86 rfl (Nat.le_of_ble_eq_true rfl) rfl ?_
      exact hv _ _
set_option maxRecDepth 20000 in
theorem b_X11_lay_216 {d : Nat} {T : HT} (hL : Lay T) {h : Hp} (eT : h.2.2 = T) (x4 : Int32) (x5 : Int32)  {Q : Option Value → Hp → Prop} (hv : ((x5 < (gI h 60 0)) → ((inB x5 16 = true) ∧ ((((gI h 76 x5.toNatClampNeg) = (-1)) → (L_X11_lay_216 d (x4 + (nI 0)) (x5 + nI 1) h Q)) ∧ (¬ ((gI h 76 x5.toNatClampNeg) = (-1)) → ((inB x5 16 = true) ∧ ((inB ((nI 10) + x5) 4180 = true) ∧ ((((gI h 76 x5.toNatClampNeg) = (gI h 60 (((nI 10) + x5).toNatClampNeg))) → (L_X11_lay_216 d (x4 + (nI 0)) (x5 + nI 1) h Q)) ∧ (¬ ((gI h 76 x5.toNatClampNeg) = (gI h 60 (((nI 10) + x5).toNatClampNeg))) → (L_X11_lay_216 d (x4 + (nI 1)) (x5 + nI 1) h Q))))))))) ∧ (¬ (x5 < (gI h 60 0)) → (Q (some (.int x4)) h))) : L_X11_lay_216 d x4 x5 h Q := by
  intro v1 v2 v3 v6 v7
  refine At_iload (pc' := 218) iX11_lay_216 rfl rfl ?_
  refine At_aload_n (pc' := 219) iX11_lay_218 rfl rfl ?_
  refine At_getR (pc' := 222) iX11_lay_219 rfl f_11_7 (kdK eT (kd_59 hL)) (by decide) (rfH eT (rf_59_0 hL)) ?_
  refine At_iconst (v := nI 0) (pc' := 223) iX11_lay_222 rfl (by decide) ?_
  refine At_iald (pc' := 224) iX11_lay_223 rfl (kdH eT (kd_60 hL)) (by decide) (show At (d + 3) MX11_lay 224 [.ref 59, v1, v2, v3, .int x4, .int x5, v6, v7] [.int (gI h 60 0), .int x5] h Q from ?_)
  refine At_icmp_ge (t := 274) (pc' := 227) iX11_lay_224 (by decide) rfl (fun c224 => ?_) (fun c224 => ?_)
  · have hv := hv.2 c224
    refine At_iload (pc' := 276) iX11_lay_274 rfl rfl ?_
    exact At_retI iX11_lay_276 rfl hv
  · have hv := hv.1 c224
    refine At_iload (pc' := 229) iX11_lay_227 rfl rfl ?_
    refine At_aload_n (pc' := 230) iX11_lay_229 rfl rfl ?_
    refine At_getR (pc' := 233) iX11_lay_230 rfl f_11_62 (kdK eT (kd_59 hL)) (by decide) (rfH eT (rf_59_29 hL)) ?_
    refine At_iload (pc' := 235) iX11_lay_233 rfl rfl ?_
    obtain ⟨hn1, hv⟩ := hv
    refine At_iald (pc' := 236) iX11_lay_235 rfl (kdH eT (kd_76 hL)) hn1 (show At (d + 3) MX11_lay 236 [.ref 59, v1, v2, v3, .int x4, .int x5, v6, v7] [.int (gI h 76 x5.toNatClampNeg), .int x4] h Q from ?_)
    refine At_iconst (v := (-1)) (pc' := 237) iX11_lay_236 rfl (by decide) ?_
    refine At_icmp_eq (t := 264) (pc' := 240) iX11_lay_237 (by decide) rfl (fun c237 => ?_) (fun c237 => ?_)
    · have hv := hv.1 c237
      refine At_iconst (v := nI 0) (pc' := 265) iX11_lay_264 rfl (by decide) ?_
      refine At_iadd (pc' := 266) iX11_lay_265 rfl ?_
      refine At_istore (L' := [.ref 59, v1, v2, (if 0 = 0 ∧ v3.category = 2 then un else v3), .int (x4 + (nI 0)), .int x5, v6, v7]) (pc' := 268) iX11_lay_266 rfl (Nat.le_of_ble_eq_true rfl) rfl ?_
      refine At_iinc (v := nI 1) (L' := [.ref 59, v1, v2, (if 0 = 0 ∧ v3.category = 2 then un else v3), .int (x4 + (nI 0)), .int (x5 + nI 1), v6, v7]) (pc' := 271) iX11_lay_268 rfl rfl (Nat.le_of_ble_eq_true rfl) (by decide) rfl ?_
      refine At_goto (t := 216) iX11_lay_271 (by decide) ?_
      exact hv _ _ _ _ _
    · have hv := hv.2 c237
      refine At_aload_n (pc' := 241) iX11_lay_240 rfl rfl ?_
      refine At_getR (pc' := 244) iX11_lay_241 rfl f_11_62 (kdK eT (kd_59 hL)) (by decide) (rfH eT (rf_59_29 hL)) ?_
      refine At_iload (pc' := 246) iX11_lay_244 rfl rfl ?_
      obtain ⟨hn2, hv⟩ := hv
      refine At_iald (pc' := 247) iX11_lay_246 rfl (kdH eT (kd_76 hL)) hn2 (show At (d + 3) MX11_lay 247 [.ref 59, v1, v2, v3, .int x4, .int x5, v6, v7] [.int (gI h 76 x5.toNatClampNeg), .int x4] h Q from ?_)
      refine At_aload_n (pc' := 248) iX11_lay_247 rfl rfl ?_
      refine At_getR (pc' := 251) iX11_lay_248 rfl f_11_7 (kdK eT (kd_59 hL)) (by decide) (rfH eT (rf_59_0 hL)) ?_
      refine At_bipush (v := nI 10) (pc' := 253) iX11_lay_251 rfl (by decide) ?_
      refine At_iload (pc' := 255) iX11_lay_253 rfl rfl ?_
      refine At_iadd (pc' := 256) iX11_lay_255 rfl ?_
      obtain ⟨hn3, hv⟩ := hv
      refine At_iald (pc' := 257) iX11_lay_256 rfl (kdH eT (kd_60 hL)) hn3 (show At (d + 3) MX11_lay 257 [.ref 59, v1, v2, v3, .int x4, .int x5, v6, v7] [.int (gI h 60 (((nI 10) + x5).toNatClampNeg)), .int (gI h 76 x5.toNatClampNeg), .int x4] h Q from ?_)
      refine At_icmp_eq (t := 264) (pc' := 260) iX11_lay_257 (by decide) rfl (fun c257 => ?_) (fun c257 => ?_)
      · have hv := hv.1 c257
        refine At_iconst (v := nI 0) (pc' := 265) iX11_lay_264 rfl (by decide) ?_
        refine At_iadd (pc' := 266) iX11_lay_265 rfl ?_
        refine At_istore (L' := [.ref 59, v1, v2, (if 0 = 0 ∧ v3.category = 2 then un else v3), .int (x4 + (nI 0)), .int x5, v6, v7]) (pc' := 268) iX11_lay_266 rfl (Nat.le_of_ble_eq_true rfl) rfl ?_
        refine At_iinc (v := nI 1) (L' := [.ref 59, v1, v2, (if 0 = 0 ∧ v3.category = 2 then un else v3), .int (x4 + (nI 0)), .int (x5 + nI 1), v6, v7]) (pc' := 271) iX11_lay_268 rfl rfl (Nat.le_of_ble_eq_true rfl) (by decide) rfl ?_
        refine At_goto (t := 216) iX11_lay_271 (by decide) ?_
        exact hv _ _ _ _ _
      · have hv := hv.2 c257
        refine At_iconst (v := nI 1) (pc' := 261) iX11_lay_260 rfl (by decide) ?_
        refine At_goto (t := 265) iX11_lay_261 (by decide) ?_
        refine At_iadd (pc' := 266) iX11_lay_265 rfl ?_
        refine At_istore (L' := [.ref 59, v1, v2, (if 0 = 0 ∧ v3.category = 2 then un else v3), .int (x4 + (nI 1)), .int x5, v6, v7]) (pc' := 268) iX11_lay_266 rfl (Nat.le_of_ble_eq_true rfl) rfl ?_
        refine At_iinc (v := nI 1) (L' := [.ref 59, v1, v2, (if 0 = 0 ∧ v3.category = 2 then un else v3), .int (x4 + (nI 1)), .int (x5 + nI 1), v6, v7]) (pc' := 271) iX11_lay_268 rfl rfl (Nat.le_of_ble_eq_true rfl) (by decide) rfl ?_
        refine At_goto (t := 216) iX11_lay_271 (by decide) ?_
        exact hv _ _ _ _ _
set_option maxRecDepth 20000 in
theorem b_X11_lay_88 {d : Nat} {T : HT} (hL : Lay T) {h : Hp} (eT : h.2.2 = T) (x1 : Int32) (x2 : Int32) (x3 : Int32) (x4 : Int32) (x5 : Int32)  {Q : Option Value → Hp → Prop} (hv : (inB ((nI 975) + x1) 4180 = true) ∧ (((x5 < (gI h 60 (((nI 975) + x1).toNatClampNeg))) → (((x3 < x2) → (CallI (d + 2) MX11_moves [.ref 59, .int x1, .int x5, .int (nI 0), .int (nI 0), .int (-1), .int (nI 0)] h (fun r116 h116 => h116.2.2 = T ∧ (((r116 = (-1)) → (L_X11_lay_88 d x1 x2 x3 x4 (x5 + nI 1) h116 Q)) ∧ (¬ (r116 = (-1)) → ((inB ((nI 940) + x3) 4180 = true) ∧ ((((gI h116 60 (((nI 940) + x3).toNatClampNeg)) = (-1)) → ((((gI h116 60 (((nI 940) + x3).toNatClampNeg)) = (-1)) → (L_X11_lay_88 d x1 x2 (x3 + nI 1) x4 (x5 + nI 1) h116 Q)) ∧ (¬ ((gI h116 60 (((nI 940) + x3).toNatClampNeg)) = (-1)) → ((inB r116 16 = true) ∧ (L_X11_lay_88 d x1 x2 (x3 + nI 1) x4 (x5 + nI 1) (sI h116 76 r116.toNatClampNeg (gI h116 60 (((nI 940) + x3).toNatClampNeg))) Q))))) ∧ (¬ ((gI h116 60 (((nI 940) + x3).toNatClampNeg)) = (-1)) → ((inB r116 16 = true) ∧ ((((gI h116 76 r116.toNatClampNeg) = (-1)) → ((((gI h116 60 (((nI 940) + x3).toNatClampNeg)) = (-1)) → (L_X11_lay_88 d x1 x2 (x3 + nI 1) x4 (x5 + nI 1) h116 Q)) ∧ (¬ ((gI h116 60 (((nI 940) + x3).toNatClampNeg)) = (-1)) → ((inB r116 16 = true) ∧ (L_X11_lay_88 d x1 x2 (x3 + nI 1) x4 (x5 + nI 1) (sI h116 76 r116.toNatClampNeg (gI h116 60 (((nI 940) + x3).toNatClampNeg))) Q))))) ∧ (¬ ((gI h116 76 r116.toNatClampNeg) = (-1)) → ((inB r116 16 = true) ∧ ((((gI h116 76 r116.toNatClampNeg) = (gI h116 60 (((nI 940) + x3).toNatClampNeg))) → ((((gI h116 60 (((nI 940) + x3).toNatClampNeg)) = (-1)) → (L_X11_lay_88 d x1 x2 (x3 + nI 1) x4 (x5 + nI 1) h116 Q)) ∧ (¬ ((gI h116 60 (((nI 940) + x3).toNatClampNeg)) = (-1)) → ((inB r116 16 = true) ∧ (L_X11_lay_88 d x1 x2 (x3 + nI 1) x4 (x5 + nI 1) (sI h116 76 r116.toNatClampNeg (gI h116 60 (((nI 940) + x3).toNatClampNeg))) Q))))) ∧ (¬ ((gI h116 76 r116.toNatClampNeg) = (gI h116 60 (((nI 940) + x3).toNatClampNeg))) → (Q (some (.int (-1))) h116))))))))))))))) ∧ (¬ (x3 < x2) → (L_X11_lay_73 d x1 x2 x3 (x4 + nI 1) h Q)))) ∧ (¬ (x5 < (gI h 60 (((nI 975) + x1).toNatClampNeg))) → (L_X11_lay_73 d x1 x2 x3 (x4 + nI 1) h Q)))) : L_X11_lay_88 d x1 x2 x3 x4 x5 h Q := by
  intro v6 v7
  refine At_iload (pc' := 90) iX11_lay_88 rfl rfl ?_
  refine At_aload_n (pc' := 91) iX11_lay_90 rfl rfl ?_
  refine At_getR (pc' := 94) iX11_lay_91 rfl f_11_7 (kdK eT (kd_59 hL)) (by decide) (rfH eT (rf_59_0 hL)) ?_
  refine At_sipush (v := nI 975) (pc' := 97) iX11_lay_94 rfl (by decide) ?_
  refine At_iload_n (pc' := 98) iX11_lay_97 rfl rfl ?_
  refine At_iadd (pc' := 99) iX11_lay_98 rfl ?_
  obtain ⟨hn1, hv⟩ := hv
  refine At_iald (pc' := 100) iX11_lay_99 rfl (kdH eT (kd_60 hL)) hn1 (show At (d + 3) MX11_lay 100 [.ref 59, .int x1, .int x2, .int x3, .int x4, .int x5, v6, v7] [.int (gI h 60 (((nI 975) + x1).toNatClampNeg)), .int x5] h Q from ?_)
  refine At_icmp_ge (t := 197) (pc' := 103) iX11_lay_100 (by decide) rfl (fun c100 => ?_) (fun c100 => ?_)
  · have hv := hv.2 c100
    refine At_iinc (v := nI 1) (L' := [.ref 59, .int x1, .int x2, .int x3, .int (x4 + nI 1), .int x5, v6, v7]) (pc' := 200) iX11_lay_197 rfl rfl (Nat.le_of_ble_eq_true rfl) (by decide) rfl ?_
    refine At_goto (t := 73) iX11_lay_200 (by decide) ?_
    exact hv _ _ _
  · have hv := hv.1 c100
    refine At_iload_n (pc' := 104) iX11_lay_103 rfl rfl ?_
    refine At_iload_n (pc' := 105) iX11_lay_104 rfl rfl ?_
    refine At_icmp_ge (t := 197) (pc' := 108) iX11_lay_105 (by decide) rfl (fun c105 => ?_) (fun c105 => ?_)
    · have hv := hv.2 c105
      refine At_iinc (v := nI 1) (L' := [.ref 59, .int x1, .int x2, .int x3, .int (x4 + nI 1), .int x5, v6, v7]) (pc' := 200) iX11_lay_197 rfl rfl (Nat.le_of_ble_eq_true rfl) (by decide) rfl ?_
      refine At_goto (t := 73) iX11_lay_200 (by decide) ?_
      exact hv _ _ _
    · have hv := hv.1 c105
      refine At_aload_n (pc' := 109) iX11_lay_108 rfl rfl ?_
      refine At_iload_n (pc' := 110) iX11_lay_109 rfl rfl ?_
      refine At_iload (pc' := 112) iX11_lay_110 rfl rfl ?_
      refine At_iconst (v := nI 0) (pc' := 113) iX11_lay_112 rfl (by decide) ?_
      refine At_iconst (v := nI 0) (pc' := 114) iX11_lay_113 rfl (by decide) ?_
      refine At_iconst (v := (-1)) (pc' := 115) iX11_lay_114 rfl (by decide) ?_
      refine At_iconst (v := nI 0) (pc' := 116) iX11_lay_115 rfl (by decide) ?_
      refine At_virt (pc' := 119) iX11_lay_116 rfl m_11_198 rfl rfl (kdK eT (kd_59 hL)) (Nat.le_of_ble_eq_true rfl) (Nat.le_of_ble_eq_true rfl) ?_
      refine At.mono (show CallI (d + 2) MX11_moves [.ref 59, .int x1, .int x5, .int (nI 0), .int (nI 0), .int (-1), .int (nI 0)] h _ from hv) ?_
      rintro _ h116 ⟨r116, rfl, eT116, hv⟩
      show At (d + 3) MX11_lay 119 [.ref 59, .int x1, .int x2, .int x3, .int x4, .int x5, v6, v7] [.int r116] h116 Q
      refine At_istore (L' := [.ref 59, .int x1, .int x2, .int x3, .int x4, .int x5, .int r116, v7]) (pc' := 121) iX11_lay_119 rfl (Nat.le_of_ble_eq_true rfl) rfl ?_
      refine At_iload (pc' := 123) iX11_lay_121 rfl rfl ?_
      refine At_iconst (v := (-1)) (pc' := 124) iX11_lay_123 rfl (by decide) ?_
      refine At_icmp_ne (t := 130) (pc' := 127) iX11_lay_124 (by decide) rfl (fun c124 => ?_) (fun c124 => ?_)
      · have hv := hv.2 c124
        refine At_aload_n (pc' := 131) iX11_lay_130 rfl rfl ?_
        refine At_getR (pc' := 134) iX11_lay_131 rfl f_11_7 (kdK eT116 (kd_59 hL)) (by decide) (rfH eT116 (rf_59_0 hL)) ?_
        refine At_sipush (v := nI 940) (pc' := 137) iX11_lay_134 rfl (by decide) ?_
        refine At_iload_n (pc' := 138) iX11_lay_137 rfl rfl ?_
        refine At_iadd (pc' := 139) iX11_lay_138 rfl ?_
        obtain ⟨hn2, hv⟩ := hv
        refine At_iald (pc' := 140) iX11_lay_139 rfl (kdH eT116 (kd_60 hL)) hn2 (show At (d + 3) MX11_lay 140 [.ref 59, .int x1, .int x2, .int x3, .int x4, .int x5, .int r116, v7] [.int (gI h116 60 (((nI 940) + x3).toNatClampNeg))] h116 Q from ?_)
        refine At_istore (L' := [.ref 59, .int x1, .int x2, .int x3, .int x4, .int x5, .int r116, .int (gI h116 60 (((nI 940) + x3).toNatClampNeg))]) (pc' := 142) iX11_lay_140 rfl (Nat.le_of_ble_eq_true rfl) rfl ?_
        refine At_iload (pc' := 144) iX11_lay_142 rfl rfl ?_
        refine At_iconst (v := (-1)) (pc' := 145) iX11_lay_144 rfl (by decide) ?_
        refine At_icmp_eq (t := 173) (pc' := 148) iX11_lay_145 (by decide) rfl (fun c145 => ?_) (fun c145 => ?_)
        · have hv := hv.1 c145
          refine At_iload (pc' := 175) iX11_lay_173 rfl rfl ?_
          refine At_iconst (v := (-1)) (pc' := 176) iX11_lay_175 rfl (by decide) ?_
          refine At_icmp_eq (t := 188) (pc' := 179) iX11_lay_176 (by decide) rfl (fun c176 => ?_) (fun c176 => ?_)
          · have hv := hv.1 c176
            refine At_iinc (v := nI 1) (L' := [.ref 59, .int x1, .int x2, .int (x3 + nI 1), .int x4, .int x5, .int r116, .int (gI h116 60 (((nI 940) + x3).toNatClampNeg))]) (pc' := 191) iX11_lay_188 rfl rfl (Nat.le_of_ble_eq_true rfl) (by decide) rfl ?_
            refine At_iinc (v := nI 1) (L' := [.ref 59, .int x1, .int x2, .int (x3 + nI 1), .int x4, .int (x5 + nI 1), .int r116, .int (gI h116 60 (((nI 940) + x3).toNatClampNeg))]) (pc' := 194) iX11_lay_191 rfl rfl (Nat.le_of_ble_eq_true rfl) (by decide) rfl ?_
            refine At_goto (t := 88) iX11_lay_194 (by decide) ?_
            exact hv _ _
          · have hv := hv.2 c176
            refine At_aload_n (pc' := 180) iX11_lay_179 rfl rfl ?_
            refine At_getR (pc' := 183) iX11_lay_180 rfl f_11_62 (kdK eT116 (kd_59 hL)) (by decide) (rfH eT116 (rf_59_29 hL)) ?_
            refine At_iload (pc' := 185) iX11_lay_183 rfl rfl ?_
            refine At_iload (pc' := 187) iX11_lay_185 rfl rfl ?_
            obtain ⟨hn3, hv⟩ := hv
            refine At_iast (pc' := 188) iX11_lay_187 rfl (kdH eT116 (kd_76 hL)) hn3 (show At (d + 3) MX11_lay 188 [.ref 59, .int x1, .int x2, .int x3, .int x4, .int x5, .int r116, .int (gI h116 60 (((nI 940) + x3).toNatClampNeg))] [] (sI h116 76 r116.toNatClampNeg (gI h116 60 (((nI 940) + x3).toNatClampNeg))) Q from ?_)
            refine At_iinc (v := nI 1) (L' := [.ref 59, .int x1, .int x2, .int (x3 + nI 1), .int x4, .int x5, .int r116, .int (gI h116 60 (((nI 940) + x3).toNatClampNeg))]) (pc' := 191) iX11_lay_188 rfl rfl (Nat.le_of_ble_eq_true rfl) (by decide) rfl ?_
            refine At_iinc (v := nI 1) (L' := [.ref 59, .int x1, .int x2, .int (x3 + nI 1), .int x4, .int (x5 + nI 1), .int r116, .int (gI h116 60 (((nI 940) + x3).toNatClampNeg))]) (pc' := 194) iX11_lay_191 rfl rfl (Nat.le_of_ble_eq_true rfl) (by decide) rfl ?_
            refine At_goto (t := 88) iX11_lay_194 (by decide) ?_
            exact hv _ _
        · have hv := hv.2 c145
          refine At_aload_n (pc' := 149) iX11_lay_148 rfl rfl ?_
          refine At_getR (pc' := 152) iX11_lay_149 rfl f_11_62 (kdK eT116 (kd_59 hL)) (by decide) (rfH eT116 (rf_59_29 hL)) ?_
          refine At_iload (pc' := 154) iX11_lay_152 rfl rfl ?_
          obtain ⟨hn4, hv⟩ := hv
          refine At_iald (pc' := 155) iX11_lay_154 rfl (kdH eT116 (kd_76 hL)) hn4 (show At (d + 3) MX11_lay 155 [.ref 59, .int x1, .int x2, .int x3, .int x4, .int x5, .int r116, .int (gI h116 60 (((nI 940) + x3).toNatClampNeg))] [.int (gI h116 76 r116.toNatClampNeg)] h116 Q from ?_)
          refine At_iconst (v := (-1)) (pc' := 156) iX11_lay_155 rfl (by decide) ?_
          refine At_icmp_eq (t := 173) (pc' := 159) iX11_lay_156 (by decide) rfl (fun c156 => ?_) (fun c156 => ?_)
          · have hv := hv.1 c156
            refine At_iload (pc' := 175) iX11_lay_173 rfl rfl ?_
            refine At_iconst (v := (-1)) (pc' := 176) iX11_lay_175 rfl (by decide) ?_
            refine At_icmp_eq (t := 188) (pc' := 179) iX11_lay_176 (by decide) rfl (fun c176 => ?_) (fun c176 => ?_)
            · have hv := hv.1 c176
              refine At_iinc (v := nI 1) (L' := [.ref 59, .int x1, .int x2, .int (x3 + nI 1), .int x4, .int x5, .int r116, .int (gI h116 60 (((nI 940) + x3).toNatClampNeg))]) (pc' := 191) iX11_lay_188 rfl rfl (Nat.le_of_ble_eq_true rfl) (by decide) rfl ?_
              refine At_iinc (v := nI 1) (L' := [.ref 59, .int x1, .int x2, .int (x3 + nI 1), .int x4, .int (x5 + nI 1), .int r116, .int (gI h116 60 (((nI 940) + x3).toNatClampNeg))]) (pc' := 194) iX11_lay_191 rfl rfl (Nat.le_of_ble_eq_true rfl) (by decide) rfl ?_
              refine At_goto (t := 88) iX11_lay_194 (by decide) ?_
              exact hv _ _
            · have hv := hv.2 c176
              refine At_aload_n (pc' := 180) iX11_lay_179 rfl rfl ?_
              refine At_getR (pc' := 183) iX11_lay_180 rfl f_11_62 (kdK eT116 (kd_59 hL)) (by decide) (rfH eT116 (rf_59_29 hL)) ?_
              refine At_iload (pc' := 185) iX11_lay_183 rfl rfl ?_
              refine At_iload (pc' := 187) iX11_lay_185 rfl rfl ?_
              obtain ⟨hn5, hv⟩ := hv
              refine At_iast (pc' := 188) iX11_lay_187 rfl (kdH eT116 (kd_76 hL)) hn5 (show At (d + 3) MX11_lay 188 [.ref 59, .int x1, .int x2, .int x3, .int x4, .int x5, .int r116, .int (gI h116 60 (((nI 940) + x3).toNatClampNeg))] [] (sI h116 76 r116.toNatClampNeg (gI h116 60 (((nI 940) + x3).toNatClampNeg))) Q from ?_)
              refine At_iinc (v := nI 1) (L' := [.ref 59, .int x1, .int x2, .int (x3 + nI 1), .int x4, .int x5, .int r116, .int (gI h116 60 (((nI 940) + x3).toNatClampNeg))]) (pc' := 191) iX11_lay_188 rfl rfl (Nat.le_of_ble_eq_true rfl) (by decide) rfl ?_
              refine At_iinc (v := nI 1) (L' := [.ref 59, .int x1, .int x2, .int (x3 + nI 1), .int x4, .int (x5 + nI 1), .int r116, .int (gI h116 60 (((nI 940) + x3).toNatClampNeg))]) (pc' := 194) iX11_lay_191 rfl rfl (Nat.le_of_ble_eq_true rfl) (by decide) rfl ?_
              refine At_goto (t := 88) iX11_lay_194 (by decide) ?_
              exact hv _ _
          · have hv := hv.2 c156
            refine At_aload_n (pc' := 160) iX11_lay_159 rfl rfl ?_
            refine At_getR (pc' := 163) iX11_lay_160 rfl f_11_62 (kdK eT116 (kd_59 hL)) (by decide) (rfH eT116 (rf_59_29 hL)) ?_
            refine At_iload (pc' := 165) iX11_lay_163 rfl rfl ?_
            obtain ⟨hn6, hv⟩ := hv
            refine At_iald (pc' := 166) iX11_lay_165 rfl (kdH eT116 (kd_76 hL)) hn6 (show At (d + 3) MX11_lay 166 [.ref 59, .int x1, .int x2, .int x3, .int x4, .int x5, .int r116, .int (gI h116 60 (((nI 940) + x3).toNatClampNeg))] [.int (gI h116 76 r116.toNatClampNeg)] h116 Q from ?_)
            refine At_iload (pc' := 168) iX11_lay_166 rfl rfl ?_
            refine At_icmp_eq (t := 173) (pc' := 171) iX11_lay_168 (by decide) rfl (fun c168 => ?_) (fun c168 => ?_)
            · have hv := hv.1 c168
              refine At_iload (pc' := 175) iX11_lay_173 rfl rfl ?_
              refine At_iconst (v := (-1)) (pc' := 176) iX11_lay_175 rfl (by decide) ?_
              refine At_icmp_eq (t := 188) (pc' := 179) iX11_lay_176 (by decide) rfl (fun c176 => ?_) (fun c176 => ?_)
              · have hv := hv.1 c176
                refine At_iinc (v := nI 1) (L' := [.ref 59, .int x1, .int x2, .int (x3 + nI 1), .int x4, .int x5, .int r116, .int (gI h116 60 (((nI 940) + x3).toNatClampNeg))]) (pc' := 191) iX11_lay_188 rfl rfl (Nat.le_of_ble_eq_true rfl) (by decide) rfl ?_
                refine At_iinc (v := nI 1) (L' := [.ref 59, .int x1, .int x2, .int (x3 + nI 1), .int x4, .int (x5 + nI 1), .int r116, .int (gI h116 60 (((nI 940) + x3).toNatClampNeg))]) (pc' := 194) iX11_lay_191 rfl rfl (Nat.le_of_ble_eq_true rfl) (by decide) rfl ?_
                refine At_goto (t := 88) iX11_lay_194 (by decide) ?_
                exact hv _ _
              · have hv := hv.2 c176
                refine At_aload_n (pc' := 180) iX11_lay_179 rfl rfl ?_
                refine At_getR (pc' := 183) iX11_lay_180 rfl f_11_62 (kdK eT116 (kd_59 hL)) (by decide) (rfH eT116 (rf_59_29 hL)) ?_
                refine At_iload (pc' := 185) iX11_lay_183 rfl rfl ?_
                refine At_iload (pc' := 187) iX11_lay_185 rfl rfl ?_
                obtain ⟨hn7, hv⟩ := hv
                refine At_iast (pc' := 188) iX11_lay_187 rfl (kdH eT116 (kd_76 hL)) hn7 (show At (d + 3) MX11_lay 188 [.ref 59, .int x1, .int x2, .int x3, .int x4, .int x5, .int r116, .int (gI h116 60 (((nI 940) + x3).toNatClampNeg))] [] (sI h116 76 r116.toNatClampNeg (gI h116 60 (((nI 940) + x3).toNatClampNeg))) Q from ?_)
                refine At_iinc (v := nI 1) (L' := [.ref 59, .int x1, .int x2, .int (x3 + nI 1), .int x4, .int x5, .int r116, .int (gI h116 60 (((nI 940) + x3).toNatClampNeg))]) (pc' := 191) iX11_lay_188 rfl rfl (Nat.le_of_ble_eq_true rfl) (by decide) rfl ?_
                refine At_iinc (v := nI 1) (L' := [.ref 59, .int x1, .int x2, .int (x3 + nI 1), .int x4, .int (x5 + nI 1), .int r116, .int (gI h116 60 (((nI 940) + x3).toNatClampNeg))]) (pc' := 194) iX11_lay_191 rfl rfl (Nat.le_of_ble_eq_true rfl) (by decide) rfl ?_
                refine At_goto (t := 88) iX11_lay_194 (by decide) ?_
                exact hv _ _
            · have hv := hv.2 c168
              refine At_iconst (v := (-1)) (pc' := 172) iX11_lay_171 rfl (by decide) ?_
              exact At_retI iX11_lay_172 rfl hv
      · have hv := hv.1 c124
        refine At_goto (t := 191) iX11_lay_127 (by decide) ?_
        refine At_iinc (v := nI 1) (L' := [.ref 59, .int x1, .int x2, .int x3, .int x4, .int (x5 + nI 1), .int r116, v7]) (pc' := 194) iX11_lay_191 rfl rfl (Nat.le_of_ble_eq_true rfl) (by decide) rfl ?_
        refine At_goto (t := 88) iX11_lay_194 (by decide) ?_
        exact hv _ _
-- X11_need (calls X11_next0)
set_option maxRecDepth 20000 in
theorem b_X11_need {d : Nat} {T : HT} (hL : Lay T) {h : Hp} (eT : h.2.2 = T) (x1 : Int32)  {Q : Option Value → Hp → Prop} (hv : (((gI h 59 10) = x1) → (CallV (d + 2) MX11_next0 [.ref 59] h (fun h15 => h15.2.2 = T ∧ (Q (some (.int (b2i true))) h15)))) ∧ (¬ ((gI h 59 10) = x1) → (Q (some (.int (b2i (r_X11_bad (nI 1) h)))) (w_X11_bad (nI 1) h)))) : Call (d + 3) MX11_need [.ref 59, .int x1] h Q := by
  show At (d + 3) MX11_need 0 [.ref 59, .int x1] [] h Q
  refine At_aload_n (pc' := 1) iX11_need_0 rfl rfl ?_
  refine At_getI (pc' := 4) iX11_need_1 rfl f_11_121 (kdK eT (kd_59 hL)) (by decide) ?_
  refine At_iload_n (pc' := 5) iX11_need_4 rfl rfl ?_
  refine At_icmp_eq (t := 14) (pc' := 8) iX11_need_5 (by decide) rfl (fun c5 => ?_) (fun c5 => ?_)
  · have hv := hv.1 c5
    refine At_aload_n (pc' := 15) iX11_need_14 rfl rfl ?_
    refine At_virt (pc' := 18) iX11_need_15 rfl m_11_145 rfl rfl (kdK eT (kd_59 hL)) (Nat.le_of_ble_eq_true rfl) (Nat.le_of_ble_eq_true rfl) ?_
    refine At.mono (show CallV (d + 2) MX11_next0 [.ref 59] h _ from hv) ?_
    rintro _ h15 ⟨rfl, eT15, hv⟩
    show At (d + 3) MX11_need 18 [.ref 59, .int x1] [] h15 Q
    refine At_iconst (v := nI 1) (pc' := 19) iX11_need_18 rfl (by decide) ?_
    exact At_retT iX11_need_19 rfl hv
  · have hv := hv.2 c5
    refine At_aload_n (pc' := 9) iX11_need_8 rfl rfl ?_
    refine At_iconst (v := nI 1) (pc' := 10) iX11_need_9 rfl (by decide) ?_
    refine At_virt (pc' := 13) iX11_need_10 rfl m_11_142 rfl rfl (kdK eT (kd_59 hL)) (Nat.le_of_ble_eq_true rfl) (Nat.le_of_ble_eq_true rfl) ?_
    refine c_X11_bad (h := h) hL eT (nI 1)   (show At (d + 3) MX11_need 13 [.ref 59, .int x1] [.int (b2i (r_X11_bad (nI 1) h))] (w_X11_bad (nI 1) h) Q from ?_)
    exact At_retZ iX11_need_13 rfl (b2i_01 _) hv
-- X11_number (calls X11_next0)
set_option maxRecDepth 20000 in
theorem b_X11_number {d : Nat} {T : HT} (hL : Lay T) {h : Hp} (eT : h.2.2 = T) (x1 : Int32) (x2 : Int32)  {Q : Option Value → Hp → Prop} (hv : (((gI h 59 10) = (nI 2)) → ((((r_X11_isIn (gI h 59 12) x1 x2) = true) → (CallV (d + 2) MX11_next0 [.ref 59] h (fun h33 => h33.2.2 = T ∧ (Q (some (.int (b2i true))) h33)))) ∧ (¬ ((r_X11_isIn (gI h 59 12) x1 x2) = true) → (Q (some (.int (b2i (r_X11_bad (nI 2) h)))) (w_X11_bad (nI 2) h))))) ∧ (¬ ((gI h 59 10) = (nI 2)) → (Q (some (.int (b2i (r_X11_bad (nI 1) h)))) (w_X11_bad (nI 1) h)))) : Call (d + 3) MX11_number [.ref 59, .int x1, .int x2] h Q := by
  show At (d + 3) MX11_number 0 [.ref 59, .int x1, .int x2] [] h Q
  refine At_aload_n (pc' := 1) iX11_number_0 rfl rfl ?_
  refine At_getI (pc' := 4) iX11_number_1 rfl f_11_121 (kdK eT (kd_59 hL)) (by decide) ?_
  refine At_iconst (v := nI 2) (pc' := 5) iX11_number_4 rfl (by decide) ?_
  refine At_icmp_eq (t := 14) (pc' := 8) iX11_number_5 (by decide) rfl (fun c5 => ?_) (fun c5 => ?_)
  · have hv := hv.1 c5
    refine At_aload_n (pc' := 15) iX11_number_14 rfl rfl ?_
    refine At_getI (pc' := 18) iX11_number_15 rfl f_11_133 (kdK eT (kd_59 hL)) (by decide) ?_
    refine At_iload_n (pc' := 19) iX11_number_18 rfl rfl ?_
    refine At_iload_n (pc' := 20) iX11_number_19 rfl rfl ?_
    refine At_stat (pc' := 23) iX11_number_20 rfl m_11_72 rfl rfl (Nat.le_of_ble_eq_true rfl) (Nat.le_of_ble_eq_true rfl) (Nat.le_of_ble_eq_true rfl) ?_
    refine c_X11_isIn (h := h) (gI h 59 12) x1 x2   (show At (d + 3) MX11_number 23 [.ref 59, .int x1, .int x2] [.int (b2i (r_X11_isIn (gI h 59 12) x1 x2))] h Q from ?_)
    refine At_zne (t := 32) (pc' := 26) iX11_number_23 (by decide) rfl (fun c23 => ?_) (fun c23 => ?_)
    · have hv := hv.1 c23
      refine At_aload_n (pc' := 33) iX11_number_32 rfl rfl ?_
      refine At_virt (pc' := 36) iX11_number_33 rfl m_11_145 rfl rfl (kdK eT (kd_59 hL)) (Nat.le_of_ble_eq_true rfl) (Nat.le_of_ble_eq_true rfl) ?_
      refine At.mono (show CallV (d + 2) MX11_next0 [.ref 59] h _ from hv) ?_
      rintro _ h33 ⟨rfl, eT33, hv⟩
      show At (d + 3) MX11_number 36 [.ref 59, .int x1, .int x2] [] h33 Q
      refine At_iconst (v := nI 1) (pc' := 37) iX11_number_36 rfl (by decide) ?_
      exact At_retT iX11_number_37 rfl hv
    · have hv := hv.2 c23
      refine At_aload_n (pc' := 27) iX11_number_26 rfl rfl ?_
      refine At_iconst (v := nI 2) (pc' := 28) iX11_number_27 rfl (by decide) ?_
      refine At_virt (pc' := 31) iX11_number_28 rfl m_11_142 rfl rfl (kdK eT (kd_59 hL)) (Nat.le_of_ble_eq_true rfl) (Nat.le_of_ble_eq_true rfl) ?_
      refine c_X11_bad (h := h) hL eT (nI 2)   (show At (d + 3) MX11_number 31 [.ref 59, .int x1, .int x2] [.int (b2i (r_X11_bad (nI 2) h))] (w_X11_bad (nI 2) h) Q from ?_)
      exact At_retZ iX11_number_31 rfl (b2i_01 _) hv
  · have hv := hv.2 c5
    refine At_aload_n (pc' := 9) iX11_number_8 rfl rfl ?_
    refine At_iconst (v := nI 1) (pc' := 10) iX11_number_9 rfl (by decide) ?_
    refine At_virt (pc' := 13) iX11_number_10 rfl m_11_142 rfl rfl (kdK eT (kd_59 hL)) (Nat.le_of_ble_eq_true rfl) (Nat.le_of_ble_eq_true rfl) ?_
    refine c_X11_bad (h := h) hL eT (nI 1)   (show At (d + 3) MX11_number 13 [.ref 59, .int x1, .int x2] [.int (b2i (r_X11_bad (nI 1) h))] (w_X11_bad (nI 1) h) Q from ?_)
    exact At_retZ iX11_number_13 rfl (b2i_01 _) hv
-- X11_sings (loop)
def L_X11_sings_3 (d : Nat) (x1 : Int32) (x2 : Int32) (x3 : Int32) (x4 : Int32) (h : Hp) (Q : Option Value → Hp → Prop) : Prop := At (d + 3) MX11_sings 3 [.ref 59, .int x1, .int x2, .int x3, .int x4] [] h Q
set_option maxRecDepth 20000 in
theorem b_X11_sings {d : Nat} {T : HT} (hL : Lay T) {h : Hp} (eT : h.2.2 = T) (x1 : Int32) (x2 : Int32) (x3 : Int32)  {Q : Option Value → Hp → Prop} (hv : L_X11_sings_3 d x1 x2 x3 (nI 0) h Q) : Call (d + 3) MX11_sings [.ref 59, .int x1, .int x2, .int x3] h Q := by
  show At (d + 3) MX11_sings 0 [.ref 59, .int x1, .int x2, .int x3, un] [] h Q
  refine At_iconst (v := nI 0) (pc' := 1) iX11_sings_0 rfl (by decide) ?_
  refine At_istore (L' := [.ref 59, .int x1, .int x2, .int x3, .int (nI 0)]) (pc' := 3) iX11_sings_1 rfl (Nat.le_of_ble_eq_true rfl) rfl ?_
  exact hv
set_option maxRecDepth 20000 in
theorem b_X11_sings_3 {d : Nat} {T : HT} (hL : Lay T) {h : Hp} (eT : h.2.2 = T) (x1 : Int32) (x2 : Int32) (x3 : Int32) (x4 : Int32)  {Q : Option Value → Hp → Prop} (hv : (inB ((nI 975) + x1) 4180 = true) ∧ (((x4 < (gI h 60 (((nI 975) + x1).toNatClampNeg))) → (CallI (d + 2) MX11_moves [.ref 59, .int x1, .int x4, .int x2, .int (nI 1), .int x3, .int (nI 0)] h (fun r26 h26 => h26.2.2 = T ∧ (L_X11_sings_3 d x1 x2 x3 (x4 + nI 1) h26 Q)))) ∧ (¬ (x4 < (gI h 60 (((nI 975) + x1).toNatClampNeg))) → (Q none h)))) : L_X11_sings_3 d x1 x2 x3 x4 h Q := by
  refine At_iload (pc' := 5) iX11_sings_3 rfl rfl ?_
  refine At_aload_n (pc' := 6) iX11_sings_5 rfl rfl ?_
  refine At_getR (pc' := 9) iX11_sings_6 rfl f_11_7 (kdK eT (kd_59 hL)) (by decide) (rfH eT (rf_59_0 hL)) ?_
  refine At_sipush (v := nI 975) (pc' := 12) iX11_sings_9 rfl (by decide) ?_
  refine At_iload_n (pc' := 13) iX11_sings_12 rfl rfl ?_
  refine At_iadd (pc' := 14) iX11_sings_13 rfl ?_
  obtain ⟨hn1, hv⟩ := hv
  refine At_iald (pc' := 15) iX11_sings_14 rfl (kdH eT (kd_60 hL)) hn1 (show At (d + 3) MX11_sings 15 [.ref 59, .int x1, .int x2, .int x3, .int x4] [.int (gI h 60 (((nI 975) + x1).toNatClampNeg)), .int x4] h Q from ?_)
  refine At_icmp_ge (t := 36) (pc' := 18) iX11_sings_15 (by decide) rfl (fun c15 => ?_) (fun c15 => ?_)
  · have hv := hv.2 c15
    exact At_retV iX11_sings_36 rfl hv
  · have hv := hv.1 c15
    refine At_aload_n (pc' := 19) iX11_sings_18 rfl rfl ?_
    refine At_iload_n (pc' := 20) iX11_sings_19 rfl rfl ?_
    refine At_iload (pc' := 22) iX11_sings_20 rfl rfl ?_
    refine At_iload_n (pc' := 23) iX11_sings_22 rfl rfl ?_
    refine At_iconst (v := nI 1) (pc' := 24) iX11_sings_23 rfl (by decide) ?_
    refine At_iload_n (pc' := 25) iX11_sings_24 rfl rfl ?_
    refine At_iconst (v := nI 0) (pc' := 26) iX11_sings_25 rfl (by decide) ?_
    refine At_virt (pc' := 29) iX11_sings_26 rfl m_11_198 rfl rfl (kdK eT (kd_59 hL)) (Nat.le_of_ble_eq_true rfl) (Nat.le_of_ble_eq_true rfl) ?_
    refine At.mono (show CallI (d + 2) MX11_moves [.ref 59, .int x1, .int x4, .int x2, .int (nI 1), .int x3, .int (nI 0)] h _ from hv) ?_
    rintro _ h26 ⟨r26, rfl, eT26, hv⟩
    show At (d + 3) MX11_sings 29 [.ref 59, .int x1, .int x2, .int x3, .int x4] [.int r26] h26 Q
    refine At_pop (pc' := 30) iX11_sings_29 rfl rfl ?_
    refine At_iinc (v := nI 1) (L' := [.ref 59, .int x1, .int x2, .int x3, .int (x4 + nI 1)]) (pc' := 33) iX11_sings_30 rfl rfl (Nat.le_of_ble_eq_true rfl) (by decide) rfl ?_
    refine At_goto (t := 3) iX11_sings_33 (by decide) ?_
    exact hv
-- X11_singsAlone (loop)
def L_X11_singsAlone_2 (d : Nat) (x1 : Int32) (x2 : Int32) (h : Hp) (Q : Option Value → Hp → Prop) : Prop := At (d + 3) MX11_singsAlone 2 [.ref 59, .int x1, .int x2] [] h Q
def L_X11_singsAlone_31 (d : Nat) (x1 : Int32) (x2 : Int32) (h : Hp) (Q : Option Value → Hp → Prop) : Prop := At (d + 3) MX11_singsAlone 31 [.ref 59, .int x1, .int x2] [] h Q
set_option maxRecDepth 20000 in
theorem b_X11_singsAlone {d : Nat} {T : HT} (hL : Lay T) {h : Hp} (eT : h.2.2 = T) (x1 : Int32)  {Q : Option Value → Hp → Prop} (hv : L_X11_singsAlone_2 d x1 (nI 0) h Q) : Call (d + 3) MX11_singsAlone [.ref 59, .int x1] h Q := by
  show At (d + 3) MX11_singsAlone 0 [.ref 59, .int x1, un] [] h Q
  refine At_iconst (v := nI 0) (pc' := 1) iX11_singsAlone_0 rfl (by decide) ?_
  refine At_istore_n (L' := [.ref 59, .int x1, .int (nI 0)]) (pc' := 2) iX11_singsAlone_1 rfl (Nat.le_of_ble_eq_true rfl) rfl ?_
  exact hv
set_option maxRecDepth 20000 in
theorem b_X11_singsAlone_2 {d : Nat} {T : HT} (hL : Lay T) {h : Hp} (eT : h.2.2 = T) (x1 : Int32) (x2 : Int32)  {Q : Option Value → Hp → Prop} (hv : ((x2 < (nI 256)) → ((inB ((nI 60) + x2) 4180 = true) ∧ (L_X11_singsAlone_2 d x1 (x2 + nI 1) (sI h 60 (((nI 60) + x2).toNatClampNeg) (nI 0)) Q))) ∧ (¬ (x2 < (nI 256)) → (CallV (d + 2) MX11_sitsAtFirst [.ref 59] h (fun h26 => h26.2.2 = T ∧ (L_X11_singsAlone_31 d x1 (nI 0) h26 Q))))) : L_X11_singsAlone_2 d x1 x2 h Q := by
  refine At_iload_n (pc' := 3) iX11_singsAlone_2 rfl rfl ?_
  refine At_sipush (v := nI 256) (pc' := 6) iX11_singsAlone_3 rfl (by decide) ?_
  refine At_icmp_ge (t := 25) (pc' := 9) iX11_singsAlone_6 (by decide) rfl (fun c6 => ?_) (fun c6 => ?_)
  · have hv := hv.2 c6
    refine At_aload_n (pc' := 26) iX11_singsAlone_25 rfl rfl ?_
    refine At_virt (pc' := 29) iX11_singsAlone_26 rfl m_11_248 rfl rfl (kdK eT (kd_59 hL)) (Nat.le_of_ble_eq_true rfl) (Nat.le_of_ble_eq_true rfl) ?_
    refine At.mono (show CallV (d + 2) MX11_sitsAtFirst [.ref 59] h _ from hv) ?_
    rintro _ h26 ⟨rfl, eT26, hv⟩
    show At (d + 3) MX11_singsAlone 29 [.ref 59, .int x1, .int x2] [] h26 Q
    refine At_iconst (v := nI 0) (pc' := 30) iX11_singsAlone_29 rfl (by decide) ?_
    refine At_istore_n (L' := [.ref 59, .int x1, .int (nI 0)]) (pc' := 31) iX11_singsAlone_30 rfl (Nat.le_of_ble_eq_true rfl) rfl ?_
    exact hv
  · have hv := hv.1 c6
    refine At_aload_n (pc' := 10) iX11_singsAlone_9 rfl rfl ?_
    refine At_getR (pc' := 13) iX11_singsAlone_10 rfl f_11_7 (kdK eT (kd_59 hL)) (by decide) (rfH eT (rf_59_0 hL)) ?_
    refine At_bipush (v := nI 60) (pc' := 15) iX11_singsAlone_13 rfl (by decide) ?_
    refine At_iload_n (pc' := 16) iX11_singsAlone_15 rfl rfl ?_
    refine At_iadd (pc' := 17) iX11_singsAlone_16 rfl ?_
    refine At_iconst (v := nI 0) (pc' := 18) iX11_singsAlone_17 rfl (by decide) ?_
    obtain ⟨hn1, hv⟩ := hv
    refine At_iast (pc' := 19) iX11_singsAlone_18 rfl (kdH eT (kd_60 hL)) hn1 (show At (d + 3) MX11_singsAlone 19 [.ref 59, .int x1, .int x2] [] (sI h 60 (((nI 60) + x2).toNatClampNeg) (nI 0)) Q from ?_)
    refine At_iinc (v := nI 1) (L' := [.ref 59, .int x1, .int (x2 + nI 1)]) (pc' := 22) iX11_singsAlone_19 rfl rfl (Nat.le_of_ble_eq_true rfl) (by decide) rfl ?_
    refine At_goto (t := 2) iX11_singsAlone_22 (by decide) ?_
    exact hv
set_option maxRecDepth 20000 in
theorem b_X11_singsAlone_31 {d : Nat} {T : HT} (hL : Lay T) {h : Hp} (eT : h.2.2 = T) (x1 : Int32) (x2 : Int32)  {Q : Option Value → Hp → Prop} (hv : (inB ((nI 975) + x1) 4180 = true) ∧ (((x2 < (gI h 60 (((nI 975) + x1).toNatClampNeg))) → (CallI (d + 2) MX11_moves [.ref 59, .int x1, .int x2, .int (nI 0), .int (nI 1), .int (-1), .int (nI 1)] h (fun r52 h52 => h52.2.2 = T ∧ (L_X11_singsAlone_31 d x1 (x2 + nI 1) h52 Q)))) ∧ (¬ (x2 < (gI h 60 (((nI 975) + x1).toNatClampNeg))) → (Q none h)))) : L_X11_singsAlone_31 d x1 x2 h Q := by
  refine At_iload_n (pc' := 32) iX11_singsAlone_31 rfl rfl ?_
  refine At_aload_n (pc' := 33) iX11_singsAlone_32 rfl rfl ?_
  refine At_getR (pc' := 36) iX11_singsAlone_33 rfl f_11_7 (kdK eT (kd_59 hL)) (by decide) (rfH eT (rf_59_0 hL)) ?_
  refine At_sipush (v := nI 975) (pc' := 39) iX11_singsAlone_36 rfl (by decide) ?_
  refine At_iload_n (pc' := 40) iX11_singsAlone_39 rfl rfl ?_
  refine At_iadd (pc' := 41) iX11_singsAlone_40 rfl ?_
  obtain ⟨hn1, hv⟩ := hv
  refine At_iald (pc' := 42) iX11_singsAlone_41 rfl (kdH eT (kd_60 hL)) hn1 (show At (d + 3) MX11_singsAlone 42 [.ref 59, .int x1, .int x2] [.int (gI h 60 (((nI 975) + x1).toNatClampNeg)), .int x2] h Q from ?_)
  refine At_icmp_ge (t := 62) (pc' := 45) iX11_singsAlone_42 (by decide) rfl (fun c42 => ?_) (fun c42 => ?_)
  · have hv := hv.2 c42
    exact At_retV iX11_singsAlone_62 rfl hv
  · have hv := hv.1 c42
    refine At_aload_n (pc' := 46) iX11_singsAlone_45 rfl rfl ?_
    refine At_iload_n (pc' := 47) iX11_singsAlone_46 rfl rfl ?_
    refine At_iload_n (pc' := 48) iX11_singsAlone_47 rfl rfl ?_
    refine At_iconst (v := nI 0) (pc' := 49) iX11_singsAlone_48 rfl (by decide) ?_
    refine At_iconst (v := nI 1) (pc' := 50) iX11_singsAlone_49 rfl (by decide) ?_
    refine At_iconst (v := (-1)) (pc' := 51) iX11_singsAlone_50 rfl (by decide) ?_
    refine At_iconst (v := nI 1) (pc' := 52) iX11_singsAlone_51 rfl (by decide) ?_
    refine At_virt (pc' := 55) iX11_singsAlone_52 rfl m_11_198 rfl rfl (kdK eT (kd_59 hL)) (Nat.le_of_ble_eq_true rfl) (Nat.le_of_ble_eq_true rfl) ?_
    refine At.mono (show CallI (d + 2) MX11_moves [.ref 59, .int x1, .int x2, .int (nI 0), .int (nI 1), .int (-1), .int (nI 1)] h _ from hv) ?_
    rintro _ h52 ⟨r52, rfl, eT52, hv⟩
    show At (d + 3) MX11_singsAlone 55 [.ref 59, .int x1, .int x2] [.int r52] h52 Q
    refine At_pop (pc' := 56) iX11_singsAlone_55 rfl rfl ?_
    refine At_iinc (v := nI 1) (L' := [.ref 59, .int x1, .int (x2 + nI 1)]) (pc' := 59) iX11_singsAlone_56 rfl rfl (Nat.le_of_ble_eq_true rfl) (by decide) rfl ?_
    refine At_goto (t := 31) iX11_singsAlone_59 (by decide) ?_
    exact hv
-- X11_singsTruly (calls X11_sitsNow)
def L_X11_singsTruly_8 (d : Nat) (x1 : Int32) (x2 : Int32) (x3 : Int32) (h : Hp) (Q : Option Value → Hp → Prop) : Prop := ∀ v4 v5 : Value, At (d + 3) MX11_singsTruly 8 [.ref 59, .int x1, .int x2, .int x3, v4, v5] [] h Q
def L_X11_singsTruly_135 (d : Nat) (x2 : Int32) (x3 : Int32) (h : Hp) (Q : Option Value → Hp → Prop) : Prop := ∀ v1 v4 v5 : Value, At (d + 3) MX11_singsTruly 135 [.ref 59, v1, .int x2, .int x3, v4, v5] [] h Q
def L_X11_singsTruly_73 (d : Nat) (x1 : Int32) (x2 : Int32) (x3 : Int32) (h : Hp) (Q : Option Value → Hp → Prop) : Prop := ∀ v4 v5 : Value, At (d + 3) MX11_singsTruly 73 [.ref 59, .int x1, .int x2, .int x3, v4, v5] [] h Q
set_option maxRecDepth 20000 in
theorem b_X11_singsTruly {d : Nat} {T : HT} (hL : Lay T) {h : Hp} (eT : h.2.2 = T) (x1 : Int32)  {Q : Option Value → Hp → Prop} (hv : CallV (d + 2) MX11_sitsNow [.ref 59] h (fun h3 => h3.2.2 = T ∧ (L_X11_singsTruly_8 d x1 (nI 0) (nI 0) h3 Q))) : Call (d + 3) MX11_singsTruly [.ref 59, .int x1] h Q := by
  show At (d + 3) MX11_singsTruly 0 [.ref 59, .int x1, un, un, un, un] [] h Q
  refine At_iconst (v := nI 0) (pc' := 1) iX11_singsTruly_0 rfl (by decide) ?_
  refine At_istore_n (L' := [.ref 59, .int x1, .int (nI 0), un, un, un]) (pc' := 2) iX11_singsTruly_1 rfl (Nat.le_of_ble_eq_true rfl) rfl ?_
  refine At_aload_n (pc' := 3) iX11_singsTruly_2 rfl rfl ?_
  refine At_virt (pc' := 6) iX11_singsTruly_3 rfl m_11_202 rfl rfl (kdK eT (kd_59 hL)) (Nat.le_of_ble_eq_true rfl) (Nat.le_of_ble_eq_true rfl) ?_
  refine At.mono (show CallV (d + 2) MX11_sitsNow [.ref 59] h _ from hv) ?_
  rintro _ h3 ⟨rfl, eT3, hv⟩
  show At (d + 3) MX11_singsTruly 6 [.ref 59, .int x1, .int (nI 0), un, un, un] [] h3 Q
  refine At_iconst (v := nI 0) (pc' := 7) iX11_singsTruly_6 rfl (by decide) ?_
  refine At_istore_n (L' := [.ref 59, .int x1, .int (nI 0), .int (nI 0), un, un]) (pc' := 8) iX11_singsTruly_7 rfl (Nat.le_of_ble_eq_true rfl) rfl ?_
  exact hv _ _
set_option maxRecDepth 20000 in
theorem b_X11_singsTruly_8 {d : Nat} {T : HT} (hL : Lay T) {h : Hp} (eT : h.2.2 = T) (x1 : Int32) (x2 : Int32) (x3 : Int32)  {Q : Option Value → Hp → Prop} (hv : (inB ((nI 975) + x1) 4180 = true) ∧ (((x3 < (gI h 60 (((nI 975) + x1).toNatClampNeg))) → ((p_X11_ofMove x1 x3 (nI 0) h) ∧ ((((r_X11_ofMove x1 x3 (nI 0) h) = (nI 2)) → (L_X11_singsTruly_73 d x1 x2 x3 h Q)) ∧ (¬ ((r_X11_ofMove x1 x3 (nI 0) h) = (nI 2)) → (((0 < (gI h 60 1)) → ((p_X11_draw (nI 1000) h) ∧ ((((r_X11_draw (nI 1000) h) < (gI (w_X11_draw (nI 1000) h) 60 1)) → (L_X11_singsTruly_8 d x1 x2 (x3 + nI 1) (w_X11_draw (nI 1000) h) Q)) ∧ (¬ ((r_X11_draw (nI 1000) h) < (gI (w_X11_draw (nI 1000) h) 60 1)) → (L_X11_singsTruly_73 d x1 x2 x3 (w_X11_draw (nI 1000) h) Q))))) ∧ (¬ (0 < (gI h 60 1)) → (L_X11_singsTruly_73 d x1 x2 x3 h Q))))))) ∧ (¬ (x3 < (gI h 60 (((nI 975) + x1).toNatClampNeg))) → (L_X11_singsTruly_135 d x2 (nI 0) h Q)))) : L_X11_singsTruly_8 d x1 x2 x3 h Q := by
  intro v4 v5
  refine At_iload_n (pc' := 9) iX11_singsTruly_8 rfl rfl ?_
  refine At_aload_n (pc' := 10) iX11_singsTruly_9 rfl rfl ?_
  refine At_getR (pc' := 13) iX11_singsTruly_10 rfl f_11_7 (kdK eT (kd_59 hL)) (by decide) (rfH eT (rf_59_0 hL)) ?_
  refine At_sipush (v := nI 975) (pc' := 16) iX11_singsTruly_13 rfl (by decide) ?_
  refine At_iload_n (pc' := 17) iX11_singsTruly_16 rfl rfl ?_
  refine At_iadd (pc' := 18) iX11_singsTruly_17 rfl ?_
  obtain ⟨hn1, hv⟩ := hv
  refine At_iald (pc' := 19) iX11_singsTruly_18 rfl (kdH eT (kd_60 hL)) hn1 (show At (d + 3) MX11_singsTruly 19 [.ref 59, .int x1, .int x2, .int x3, v4, v5] [.int (gI h 60 (((nI 975) + x1).toNatClampNeg)), .int x3] h Q from ?_)
  refine At_icmp_ge (t := 133) (pc' := 22) iX11_singsTruly_19 (by decide) rfl (fun c19 => ?_) (fun c19 => ?_)
  · have hv := hv.2 c19
    refine At_iconst (v := nI 0) (pc' := 134) iX11_singsTruly_133 rfl (by decide) ?_
    refine At_istore_n (L' := [.ref 59, .int x1, .int x2, .int (nI 0), v4, v5]) (pc' := 135) iX11_singsTruly_134 rfl (Nat.le_of_ble_eq_true rfl) rfl ?_
    exact hv _ _ _
  · have hv := hv.1 c19
    refine At_aload_n (pc' := 23) iX11_singsTruly_22 rfl rfl ?_
    refine At_iload_n (pc' := 24) iX11_singsTruly_23 rfl rfl ?_
    refine At_iload_n (pc' := 25) iX11_singsTruly_24 rfl rfl ?_
    refine At_iconst (v := nI 0) (pc' := 26) iX11_singsTruly_25 rfl (by decide) ?_
    refine At_virt (pc' := 29) iX11_singsTruly_26 rfl m_11_185 rfl rfl (kdK eT (kd_59 hL)) (Nat.le_of_ble_eq_true rfl) (Nat.le_of_ble_eq_true rfl) ?_
    obtain ⟨hn2, hv⟩ := hv
    refine c_X11_ofMove (h := h) hL eT x1 x3 (nI 0)  hn2 (show At (d + 3) MX11_singsTruly 29 [.ref 59, .int x1, .int x2, .int x3, v4, v5] [.int (r_X11_ofMove x1 x3 (nI 0) h)] h Q from ?_)
    refine At_iconst (v := nI 2) (pc' := 30) iX11_singsTruly_29 rfl (by decide) ?_
    refine At_icmp_ne (t := 37) (pc' := 33) iX11_singsTruly_30 (by decide) rfl (fun c30 => ?_) (fun c30 => ?_)
    · have hv := hv.2 c30
      refine At_iconst (v := nI 0) (pc' := 38) iX11_singsTruly_37 rfl (by decide) ?_
      refine At_istore (L' := [.ref 59, .int x1, .int x2, .int x3, .int (nI 0), v5]) (pc' := 40) iX11_singsTruly_38 rfl (Nat.le_of_ble_eq_true rfl) rfl ?_
      refine At_iload (pc' := 42) iX11_singsTruly_40 rfl rfl ?_
      refine At_if_ne (t := 73) (pc' := 45) iX11_singsTruly_42 (by decide) rfl (fun c42 => absurd c42 (by decide)) (fun c42 => ?_)
      refine At_aload_n (pc' := 46) iX11_singsTruly_45 rfl rfl ?_
      refine At_getR (pc' := 49) iX11_singsTruly_46 rfl f_11_7 (kdK eT (kd_59 hL)) (by decide) (rfH eT (rf_59_0 hL)) ?_
      refine At_iconst (v := nI 1) (pc' := 50) iX11_singsTruly_49 rfl (by decide) ?_
      refine At_iald (pc' := 51) iX11_singsTruly_50 rfl (kdH eT (kd_60 hL)) (by decide) (show At (d + 3) MX11_singsTruly 51 [.ref 59, .int x1, .int x2, .int x3, .int (nI 0), v5] [.int (gI h 60 1)] h Q from ?_)
      refine At_if_le (t := 73) (pc' := 54) iX11_singsTruly_51 (by decide) rfl (fun c51 => ?_) (fun c51 => ?_)
      · have hv := hv.2 c51
        exact hv _ _
      · have hv := hv.1 c51
        refine At_aload_n (pc' := 55) iX11_singsTruly_54 rfl rfl ?_
        refine At_sipush (v := nI 1000) (pc' := 58) iX11_singsTruly_55 rfl (by decide) ?_
        refine At_virt (pc' := 61) iX11_singsTruly_58 rfl m_11_205 rfl rfl (kdK eT (kd_59 hL)) (Nat.le_of_ble_eq_true rfl) (Nat.le_of_ble_eq_true rfl) ?_
        obtain ⟨hn3, hv⟩ := hv
        refine c_X11_draw (h := h) hL eT (nI 1000)  hn3 (show At (d + 3) MX11_singsTruly 61 [.ref 59, .int x1, .int x2, .int x3, .int (nI 0), v5] [.int (r_X11_draw (nI 1000) h)] (w_X11_draw (nI 1000) h) Q from ?_)
        refine At_aload_n (pc' := 62) iX11_singsTruly_61 rfl rfl ?_
        refine At_getR (pc' := 65) iX11_singsTruly_62 rfl f_11_7 (kdK ((wT_X11_draw (nI 1000) h).trans eT) (kd_59 hL)) (by decide) (rfH ((wT_X11_draw (nI 1000) h).trans eT) (rf_59_0 hL)) ?_
        refine At_iconst (v := nI 1) (pc' := 66) iX11_singsTruly_65 rfl (by decide) ?_
        refine At_iald (pc' := 67) iX11_singsTruly_66 rfl (kdH ((wT_X11_draw (nI 1000) h).trans eT) (kd_60 hL)) (by decide) (show At (d + 3) MX11_singsTruly 67 [.ref 59, .int x1, .int x2, .int x3, .int (nI 0), v5] [.int (gI (w_X11_draw (nI 1000) h) 60 1), .int (r_X11_draw (nI 1000) h)] (w_X11_draw (nI 1000) h) Q from ?_)
        refine At_icmp_ge (t := 73) (pc' := 70) iX11_singsTruly_67 (by decide) rfl (fun c67 => ?_) (fun c67 => ?_)
        · have hv := hv.2 c67
          exact hv _ _
        · have hv := hv.1 c67
          refine At_goto (t := 127) iX11_singsTruly_70 (by decide) ?_
          refine At_iinc (v := nI 1) (L' := [.ref 59, .int x1, .int x2, .int (x3 + nI 1), .int (nI 0), v5]) (pc' := 130) iX11_singsTruly_127 rfl rfl (Nat.le_of_ble_eq_true rfl) (by decide) rfl ?_
          refine At_goto (t := 8) iX11_singsTruly_130 (by decide) ?_
          exact hv _ _
    · have hv := hv.1 c30
      refine At_iconst (v := nI 1) (pc' := 34) iX11_singsTruly_33 rfl (by decide) ?_
      refine At_goto (t := 38) iX11_singsTruly_34 (by decide) ?_
      refine At_istore (L' := [.ref 59, .int x1, .int x2, .int x3, .int (nI 1), v5]) (pc' := 40) iX11_singsTruly_38 rfl (Nat.le_of_ble_eq_true rfl) rfl ?_
      refine At_iload (pc' := 42) iX11_singsTruly_40 rfl rfl ?_
      refine At_if_ne (t := 73) (pc' := 45) iX11_singsTruly_42 (by decide) rfl (fun c42 => ?_) (fun c42 => absurd c42 (by decide))
      exact hv _ _
set_option maxRecDepth 20000 in
theorem b_X11_singsTruly_135 {d : Nat} {T : HT} (hL : Lay T) {h : Hp} (eT : h.2.2 = T) (x2 : Int32) (x3 : Int32)  {Q : Option Value → Hp → Prop} (hv : ((x3 < (gI h 60 0)) → ((inB x3 16 = true) ∧ ((inB ((nI 42) + x3) 4180 = true) ∧ (L_X11_singsTruly_135 d x2 (x3 + nI 1) (sI h 60 (((nI 42) + x3).toNatClampNeg) (gI h 65 x3.toNatClampNeg)) Q)))) ∧ (¬ (x3 < (gI h 60 0)) → (Q (some (.int x2)) h))) : L_X11_singsTruly_135 d x2 x3 h Q := by
  intro v1 v4 v5
  refine At_iload_n (pc' := 136) iX11_singsTruly_135 rfl rfl ?_
  refine At_aload_n (pc' := 137) iX11_singsTruly_136 rfl rfl ?_
  refine At_getR (pc' := 140) iX11_singsTruly_137 rfl f_11_7 (kdK eT (kd_59 hL)) (by decide) (rfH eT (rf_59_0 hL)) ?_
  refine At_iconst (v := nI 0) (pc' := 141) iX11_singsTruly_140 rfl (by decide) ?_
  refine At_iald (pc' := 142) iX11_singsTruly_141 rfl (kdH eT (kd_60 hL)) (by decide) (show At (d + 3) MX11_singsTruly 142 [.ref 59, v1, .int x2, .int x3, v4, v5] [.int (gI h 60 0), .int x3] h Q from ?_)
  refine At_icmp_ge (t := 166) (pc' := 145) iX11_singsTruly_142 (by decide) rfl (fun c142 => ?_) (fun c142 => ?_)
  · have hv := hv.2 c142
    refine At_iload_n (pc' := 167) iX11_singsTruly_166 rfl rfl ?_
    exact At_retI iX11_singsTruly_167 rfl hv
  · have hv := hv.1 c142
    refine At_aload_n (pc' := 146) iX11_singsTruly_145 rfl rfl ?_
    refine At_getR (pc' := 149) iX11_singsTruly_146 rfl f_11_7 (kdK eT (kd_59 hL)) (by decide) (rfH eT (rf_59_0 hL)) ?_
    refine At_bipush (v := nI 42) (pc' := 151) iX11_singsTruly_149 rfl (by decide) ?_
    refine At_iload_n (pc' := 152) iX11_singsTruly_151 rfl rfl ?_
    refine At_iadd (pc' := 153) iX11_singsTruly_152 rfl ?_
    refine At_aload_n (pc' := 154) iX11_singsTruly_153 rfl rfl ?_
    refine At_getR (pc' := 157) iX11_singsTruly_154 rfl f_11_29 (kdK eT (kd_59 hL)) (by decide) (rfH eT (rf_59_17 hL)) ?_
    refine At_iload_n (pc' := 158) iX11_singsTruly_157 rfl rfl ?_
    obtain ⟨hn1, hv⟩ := hv
    refine At_iald (pc' := 159) iX11_singsTruly_158 rfl (kdH eT (kd_65 hL)) hn1 (show At (d + 3) MX11_singsTruly 159 [.ref 59, v1, .int x2, .int x3, v4, v5] [.int (gI h 65 x3.toNatClampNeg), .int ((nI 42) + x3), .ref 60] h Q from ?_)
    obtain ⟨hn2, hv⟩ := hv
    refine At_iast (pc' := 160) iX11_singsTruly_159 rfl (kdH eT (kd_60 hL)) hn2 (show At (d + 3) MX11_singsTruly 160 [.ref 59, v1, .int x2, .int x3, v4, v5] [] (sI h 60 (((nI 42) + x3).toNatClampNeg) (gI h 65 x3.toNatClampNeg)) Q from ?_)
    refine At_iinc (v := nI 1) (L' := [.ref 59, v1, .int x2, .int (x3 + nI 1), v4, v5]) (pc' := 163) iX11_singsTruly_160 rfl rfl (Nat.le_of_ble_eq_true rfl) (by decide) rfl ?_
    refine At_goto (t := 135) iX11_singsTruly_163 (by decide) ?_
    exact hv _ _ _
set_option maxRecDepth 20000 in
theorem b_X11_singsTruly_73 {d : Nat} {T : HT} (hL : Lay T) {h : Hp} (eT : h.2.2 = T) (x1 : Int32) (x2 : Int32) (x3 : Int32)  {Q : Option Value → Hp → Prop} (hv : CallI (d + 2) MX11_moves [.ref 59, .int x1, .int x3, .int (nI 0), .int (nI 1), .int (-1), .int (nI 1)] h (fun r80 h80 => h80.2.2 = T ∧ (((r80 = (-1)) → (L_X11_singsTruly_8 d x1 x2 (x3 + nI 1) h80 Q)) ∧ (¬ (r80 = (-1)) → ((inB ((nI 26) + r80) 4180 = true) ∧ ((inB ((nI 26) + r80) 4180 = true) ∧ ((p_X11_writes r80 (sI (sI h80 60 4 ((gI h80 60 4) + (nI 1))) 60 (((nI 26) + r80).toNatClampNeg) ((gI (sI h80 60 4 ((gI h80 60 4) + (nI 1))) 60 (((nI 26) + r80).toNatClampNeg)) + (nI 1)))) ∧ (L_X11_singsTruly_8 d x1 (x2 + nI 1) (x3 + nI 1) (w_X11_writes r80 (sI (sI h80 60 4 ((gI h80 60 4) + (nI 1))) 60 (((nI 26) + r80).toNatClampNeg) ((gI (sI h80 60 4 ((gI h80 60 4) + (nI 1))) 60 (((nI 26) + r80).toNatClampNeg)) + (nI 1)))) Q)))))))) : L_X11_singsTruly_73 d x1 x2 x3 h Q := by
  intro v4 v5
  refine At_aload_n (pc' := 74) iX11_singsTruly_73 rfl rfl ?_
  refine At_iload_n (pc' := 75) iX11_singsTruly_74 rfl rfl ?_
  refine At_iload_n (pc' := 76) iX11_singsTruly_75 rfl rfl ?_
  refine At_iconst (v := nI 0) (pc' := 77) iX11_singsTruly_76 rfl (by decide) ?_
  refine At_iconst (v := nI 1) (pc' := 78) iX11_singsTruly_77 rfl (by decide) ?_
  refine At_iconst (v := (-1)) (pc' := 79) iX11_singsTruly_78 rfl (by decide) ?_
  refine At_iconst (v := nI 1) (pc' := 80) iX11_singsTruly_79 rfl (by decide) ?_
  refine At_virt (pc' := 83) iX11_singsTruly_80 rfl m_11_198 rfl rfl (kdK eT (kd_59 hL)) (Nat.le_of_ble_eq_true rfl) (Nat.le_of_ble_eq_true rfl) ?_
  refine At.mono (show CallI (d + 2) MX11_moves [.ref 59, .int x1, .int x3, .int (nI 0), .int (nI 1), .int (-1), .int (nI 1)] h _ from hv) ?_
  rintro _ h80 ⟨r80, rfl, eT80, hv⟩
  show At (d + 3) MX11_singsTruly 83 [.ref 59, .int x1, .int x2, .int x3, v4, v5] [.int r80] h80 Q
  refine At_istore (L' := [.ref 59, .int x1, .int x2, .int x3, (if 0 = 0 ∧ v4.category = 2 then un else v4), .int r80]) (pc' := 85) iX11_singsTruly_83 rfl (Nat.le_of_ble_eq_true rfl) rfl ?_
  refine At_iload (pc' := 87) iX11_singsTruly_85 rfl rfl ?_
  refine At_iconst (v := (-1)) (pc' := 88) iX11_singsTruly_87 rfl (by decide) ?_
  refine At_icmp_ne (t := 94) (pc' := 91) iX11_singsTruly_88 (by decide) rfl (fun c88 => ?_) (fun c88 => ?_)
  · have hv := hv.2 c88
    refine At_aload_n (pc' := 95) iX11_singsTruly_94 rfl rfl ?_
    refine At_getR (pc' := 98) iX11_singsTruly_95 rfl f_11_7 (kdK eT80 (kd_59 hL)) (by decide) (rfH eT80 (rf_59_0 hL)) ?_
    refine At_iconst (v := nI 4) (pc' := 99) iX11_singsTruly_98 rfl (by decide) ?_
    refine At_dup2 (pc' := 100) iX11_singsTruly_99 rfl rfl rfl ?_
    refine At_iald (pc' := 101) iX11_singsTruly_100 rfl (kdH eT80 (kd_60 hL)) (by decide) (show At (d + 3) MX11_singsTruly 101 [.ref 59, .int x1, .int x2, .int x3, (if 0 = 0 ∧ v4.category = 2 then un else v4), .int r80] [.int (gI h80 60 4), .int (nI 4), .ref 60] h80 Q from ?_)
    refine At_iconst (v := nI 1) (pc' := 102) iX11_singsTruly_101 rfl (by decide) ?_
    refine At_iadd (pc' := 103) iX11_singsTruly_102 rfl ?_
    refine At_iast (pc' := 104) iX11_singsTruly_103 rfl (kdH eT80 (kd_60 hL)) (by decide) (show At (d + 3) MX11_singsTruly 104 [.ref 59, .int x1, .int x2, .int x3, (if 0 = 0 ∧ v4.category = 2 then un else v4), .int r80] [] (sI h80 60 4 ((gI h80 60 4) + (nI 1))) Q from ?_)
    refine At_aload_n (pc' := 105) iX11_singsTruly_104 rfl rfl ?_
    refine At_getR (pc' := 108) iX11_singsTruly_105 rfl f_11_7 (kdK eT80 (kd_59 hL)) (by decide) (rfH eT80 (rf_59_0 hL)) ?_
    refine At_bipush (v := nI 26) (pc' := 110) iX11_singsTruly_108 rfl (by decide) ?_
    refine At_iload (pc' := 112) iX11_singsTruly_110 rfl rfl ?_
    refine At_iadd (pc' := 113) iX11_singsTruly_112 rfl ?_
    refine At_dup2 (pc' := 114) iX11_singsTruly_113 rfl rfl rfl ?_
    obtain ⟨hn1, hv⟩ := hv
    refine At_iald (pc' := 115) iX11_singsTruly_114 rfl (kdH eT80 (kd_60 hL)) hn1 (show At (d + 3) MX11_singsTruly 115 [.ref 59, .int x1, .int x2, .int x3, (if 0 = 0 ∧ v4.category = 2 then un else v4), .int r80] [.int (gI (sI h80 60 4 ((gI h80 60 4) + (nI 1))) 60 (((nI 26) + r80).toNatClampNeg)), .int ((nI 26) + r80), .ref 60] (sI h80 60 4 ((gI h80 60 4) + (nI 1))) Q from ?_)
    refine At_iconst (v := nI 1) (pc' := 116) iX11_singsTruly_115 rfl (by decide) ?_
    refine At_iadd (pc' := 117) iX11_singsTruly_116 rfl ?_
    obtain ⟨hn2, hv⟩ := hv
    refine At_iast (pc' := 118) iX11_singsTruly_117 rfl (kdH eT80 (kd_60 hL)) hn2 (show At (d + 3) MX11_singsTruly 118 [.ref 59, .int x1, .int x2, .int x3, (if 0 = 0 ∧ v4.category = 2 then un else v4), .int r80] [] (sI (sI h80 60 4 ((gI h80 60 4) + (nI 1))) 60 (((nI 26) + r80).toNatClampNeg) ((gI (sI h80 60 4 ((gI h80 60 4) + (nI 1))) 60 (((nI 26) + r80).toNatClampNeg)) + (nI 1))) Q from ?_)
    refine At_aload_n (pc' := 119) iX11_singsTruly_118 rfl rfl ?_
    refine At_iload (pc' := 121) iX11_singsTruly_119 rfl rfl ?_
    refine At_virt (pc' := 124) iX11_singsTruly_121 rfl m_11_208 rfl rfl (kdK eT80 (kd_59 hL)) (Nat.le_of_ble_eq_true rfl) (Nat.le_of_ble_eq_true rfl) ?_
    obtain ⟨hn3, hv⟩ := hv
    refine c_X11_writes (h := sI (sI h80 60 4 ((gI h80 60 4) + (nI 1))) 60 (((nI 26) + r80).toNatClampNeg) ((gI (sI h80 60 4 ((gI h80 60 4) + (nI 1))) 60 (((nI 26) + r80).toNatClampNeg)) + (nI 1))) hL eT80 r80  hn3 (show At (d + 3) MX11_singsTruly 124 [.ref 59, .int x1, .int x2, .int x3, (if 0 = 0 ∧ v4.category = 2 then un else v4), .int r80] [] (w_X11_writes r80 (sI (sI h80 60 4 ((gI h80 60 4) + (nI 1))) 60 (((nI 26) + r80).toNatClampNeg) ((gI (sI h80 60 4 ((gI h80 60 4) + (nI 1))) 60 (((nI 26) + r80).toNatClampNeg)) + (nI 1)))) Q from ?_)
    refine At_iinc (v := nI 1) (L' := [.ref 59, .int x1, .int (x2 + nI 1), .int x3, (if 0 = 0 ∧ v4.category = 2 then un else v4), .int r80]) (pc' := 127) iX11_singsTruly_124 rfl rfl (Nat.le_of_ble_eq_true rfl) (by decide) rfl ?_
    refine At_iinc (v := nI 1) (L' := [.ref 59, .int x1, .int (x2 + nI 1), .int (x3 + nI 1), (if 0 = 0 ∧ v4.category = 2 then un else v4), .int r80]) (pc' := 130) iX11_singsTruly_127 rfl rfl (Nat.le_of_ble_eq_true rfl) (by decide) rfl ?_
    refine At_goto (t := 8) iX11_singsTruly_130 (by decide) ?_
    exact hv _ _
  · have hv := hv.1 c88
    refine At_goto (t := 127) iX11_singsTruly_91 (by decide) ?_
    refine At_iinc (v := nI 1) (L' := [.ref 59, .int x1, .int x2, .int (x3 + nI 1), (if 0 = 0 ∧ v4.category = 2 then un else v4), .int r80]) (pc' := 130) iX11_singsTruly_127 rfl rfl (Nat.le_of_ble_eq_true rfl) (by decide) rfl ?_
    refine At_goto (t := 8) iX11_singsTruly_130 (by decide) ?_
    exact hv _ _
