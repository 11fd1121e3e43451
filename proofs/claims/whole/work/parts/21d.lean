-- blocks between loop heads; written out by gen20.py
-- X11_period (loop)
def L_X11_period_26 (d : Nat) (x1 : Int32) (x2 : Int32) (h : Hp) (Q : Option Value → Hp → Prop) : Prop := At (d + 1) MX11_period 26 [.ref 59, .int x1, .int x2] [] h Q
set_option maxRecDepth 20000 in
theorem b_X11_period {d : Nat} {T : HT} (hL : Lay T) {h : Hp} (eT : h.2.2 = T) (x1 : Int32)  {Q : Option Value → Hp → Prop} (hv : (((r_X11_isIn x1 (nI 0) (nI 1)) = true) → ((((gI h 60 3) = 0) → (L_X11_period_26 d x1 (nI 0) h Q)) ∧ (¬ ((gI h 60 3) = 0) → (L_X11_period_26 d x1 (nI 1) h Q)))) ∧ (¬ ((r_X11_isIn x1 (nI 0) (nI 1)) = true) → (Q (some (.int (-1))) h))) : Call (d + 1) MX11_period [.ref 59, .int x1] h Q := by
  show At (d + 1) MX11_period 0 [.ref 59, .int x1, un] [] h Q
  refine At_iload_n (pc' := 1) iX11_period_0 rfl rfl ?_
  refine At_iconst (v := nI 0) (pc' := 2) iX11_period_1 rfl (by decide) ?_
  refine At_iconst (v := nI 1) (pc' := 3) iX11_period_2 rfl (by decide) ?_
  refine At_stat (pc' := 6) iX11_period_3 rfl m_11_72 rfl rfl (Nat.le_of_ble_eq_true rfl) (Nat.le_of_ble_eq_true rfl) (Nat.le_of_ble_eq_true rfl) ?_
  refine c_X11_isIn (h := h) x1 (nI 0) (nI 1)   (show At (d + 1) MX11_period 6 [.ref 59, .int x1, un] [.int (b2i (r_X11_isIn x1 (nI 0) (nI 1)))] h Q from ?_)
  refine At_zne (t := 11) (pc' := 9) iX11_period_6 (by decide) rfl (fun c6 => ?_) (fun c6 => ?_)
  · have hv := hv.1 c6
    refine At_aload_n (pc' := 12) iX11_period_11 rfl rfl ?_
    refine At_getR (pc' := 15) iX11_period_12 rfl f_11_7 (kdK eT (kd_59 hL)) (by decide) (rfH eT (rf_59_0 hL)) ?_
    refine At_iconst (v := nI 3) (pc' := 16) iX11_period_15 rfl (by decide) ?_
    refine At_iald (pc' := 17) iX11_period_16 rfl (kdH eT (kd_60 hL)) (by decide) (show At (d + 1) MX11_period 17 [.ref 59, .int x1, un] [.int (gI h 60 3)] h Q from ?_)
    refine At_if_ne (t := 24) (pc' := 20) iX11_period_17 (by decide) rfl (fun c17 => ?_) (fun c17 => ?_)
    · have hv := hv.2 c17
      refine At_iconst (v := nI 1) (pc' := 25) iX11_period_24 rfl (by decide) ?_
      refine At_istore_n (L' := [.ref 59, .int x1, .int (nI 1)]) (pc' := 26) iX11_period_25 rfl (Nat.le_of_ble_eq_true rfl) rfl ?_
      exact hv
    · have hv := hv.1 c17
      refine At_iconst (v := nI 0) (pc' := 21) iX11_period_20 rfl (by decide) ?_
      refine At_goto (t := 25) iX11_period_21 (by decide) ?_
      refine At_istore_n (L' := [.ref 59, .int x1, .int (nI 0)]) (pc' := 26) iX11_period_25 rfl (Nat.le_of_ble_eq_true rfl) rfl ?_
      exact hv
  · have hv := hv.2 c6
    refine At_iconst (v := (-1)) (pc' := 10) iX11_period_9 rfl (by decide) ?_
    exact At_retI iX11_period_10 rfl hv
set_option maxRecDepth 20000 in
theorem b_X11_period_26 {d : Nat} {T : HT} (hL : Lay T) {h : Hp} (eT : h.2.2 = T) (x1 : Int32) (x2 : Int32)  {Q : Option Value → Hp → Prop} (hv : ((0 < x2) → (CallZ (d + 0) MX11_comesAgain [.ref 59, .int x2, .int x1] h (fun r33 h33 => h33.2.2 = T ∧ (((r33 = true) → (Q (some (.int x2)) h33)) ∧ (¬ (r33 = true) → (L_X11_period_26 d x1 (x2 + nI 1) h33 Q)))))) ∧ (¬ (0 < x2) → (Q (some (.int x2)) h))) : L_X11_period_26 d x1 x2 h Q := by
  refine At_iload_n (pc' := 27) iX11_period_26 rfl rfl ?_
  refine At_if_le (t := 45) (pc' := 30) iX11_period_27 (by decide) rfl (fun c27 => ?_) (fun c27 => ?_)
  · have hv := hv.2 c27
    refine At_iload_n (pc' := 46) iX11_period_45 rfl rfl ?_
    exact At_retI iX11_period_46 rfl hv
  · have hv := hv.1 c27
    refine At_aload_n (pc' := 31) iX11_period_30 rfl rfl ?_
    refine At_iload_n (pc' := 32) iX11_period_31 rfl rfl ?_
    refine At_iload_n (pc' := 33) iX11_period_32 rfl rfl ?_
    refine At_virt (pc' := 36) iX11_period_33 rfl m_11_261 rfl rfl (kdK eT (kd_59 hL)) (Nat.le_of_ble_eq_true rfl) (Nat.le_of_ble_eq_true rfl) ?_
    refine At.mono (show CallZ (d + 0) MX11_comesAgain [.ref 59, .int x2, .int x1] h _ from hv) ?_
    rintro _ h33 ⟨r33, rfl, eT33, hv⟩
    show At (d + 1) MX11_period 36 [.ref 59, .int x1, .int x2] [.int (b2i r33)] h33 Q
    refine At_zne (t := 45) (pc' := 39) iX11_period_36 (by decide) rfl (fun c36 => ?_) (fun c36 => ?_)
    · have hv := hv.1 c36
      refine At_iload_n (pc' := 46) iX11_period_45 rfl rfl ?_
      exact At_retI iX11_period_46 rfl hv
    · have hv := hv.2 c36
      refine At_iinc (v := nI 1) (L' := [.ref 59, .int x1, .int (x2 + nI 1)]) (pc' := 42) iX11_period_39 rfl rfl (Nat.le_of_ble_eq_true rfl) (by decide) rfl ?_
      refine At_goto (t := 26) iX11_period_42 (by decide) ?_
      exact hv
-- X11_pulled (loop)
def L_X11_pulled_20 (d : Nat) (x1 : Int32) (x2 : Int32) (x3 : Int32) (h : Hp) (Q : Option Value → Hp → Prop) : Prop := ∀ v4 : Value, At (d + 1) MX11_pulled 20 [.ref 59, .int x1, .int x2, .int x3, v4] [] h Q
def L_X11_pulled_33 (d : Nat) (x1 : Int32) (x2 : Int32) (x3 : Int32) (x4 : Int32) (h : Hp) (Q : Option Value → Hp → Prop) : Prop := At (d + 1) MX11_pulled 33 [.ref 59, .int x1, .int x2, .int x3, .int x4] [] h Q
set_option maxRecDepth 20000 in
theorem b_X11_pulled {d : Nat} {T : HT} (hL : Lay T) {h : Hp} (eT : h.2.2 = T) (x1 : Int32)  {Q : Option Value → Hp → Prop} (hv : ((x1 < (-1)) → (Q (some (.int (-1))) h)) ∧ (¬ (x1 < (-1)) → (L_X11_pulled_20 d x1 (((nI 1) <<< ((gI h 60 0) &&& 31)) - (nI 1)) (nI 0) h Q))) : Call (d + 1) MX11_pulled [.ref 59, .int x1] h Q := by
  show At (d + 1) MX11_pulled 0 [.ref 59, .int x1, un, un, un] [] h Q
  refine At_iload_n (pc' := 1) iX11_pulled_0 rfl rfl ?_
  refine At_iconst (v := (-1)) (pc' := 2) iX11_pulled_1 rfl (by decide) ?_
  refine At_icmp_ge (t := 7) (pc' := 5) iX11_pulled_2 (by decide) rfl (fun c2 => ?_) (fun c2 => ?_)
  · have hv := hv.2 c2
    refine At_iconst (v := nI 1) (pc' := 8) iX11_pulled_7 rfl (by decide) ?_
    refine At_aload_n (pc' := 9) iX11_pulled_8 rfl rfl ?_
    refine At_getR (pc' := 12) iX11_pulled_9 rfl f_11_7 (kdK eT (kd_59 hL)) (by decide) (rfH eT (rf_59_0 hL)) ?_
    refine At_iconst (v := nI 0) (pc' := 13) iX11_pulled_12 rfl (by decide) ?_
    refine At_iald (pc' := 14) iX11_pulled_13 rfl (kdH eT (kd_60 hL)) (by decide) (show At (d + 1) MX11_pulled 14 [.ref 59, .int x1, un, un, un] [.int (gI h 60 0), .int (nI 1)] h Q from ?_)
    refine At_ishl (pc' := 15) iX11_pulled_14 rfl ?_
    refine At_iconst (v := nI 1) (pc' := 16) iX11_pulled_15 rfl (by decide) ?_
    refine At_isub (pc' := 17) iX11_pulled_16 rfl ?_
    refine At_istore_n (L' := [.ref 59, .int x1, .int (((nI 1) <<< ((gI h 60 0) &&& 31)) - (nI 1)), un, un]) (pc' := 18) iX11_pulled_17 rfl (Nat.le_of_ble_eq_true rfl) rfl ?_
    refine At_iconst (v := nI 0) (pc' := 19) iX11_pulled_18 rfl (by decide) ?_
    refine At_istore_n (L' := [.ref 59, .int x1, .int (((nI 1) <<< ((gI h 60 0) &&& 31)) - (nI 1)), .int (nI 0), un]) (pc' := 20) iX11_pulled_19 rfl (Nat.le_of_ble_eq_true rfl) rfl ?_
    exact hv _
  · have hv := hv.1 c2
    refine At_iconst (v := (-1)) (pc' := 6) iX11_pulled_5 rfl (by decide) ?_
    exact At_retI iX11_pulled_6 rfl hv
set_option maxRecDepth 20000 in
theorem b_X11_pulled_20 {d : Nat} {T : HT} (hL : Lay T) {h : Hp} (eT : h.2.2 = T) (x1 : Int32) (x2 : Int32) (x3 : Int32)  {Q : Option Value → Hp → Prop} (hv : ((x3 < (gI h 60 0)) → (L_X11_pulled_33 d x1 x2 x3 (nI 0) h Q)) ∧ (¬ (x3 < (gI h 60 0)) → (((x1 = (-1)) → (Q (some (.int (gI h 60 0))) h)) ∧ (¬ (x1 = (-1)) → (Q (some (.int (-1))) h))))) : L_X11_pulled_20 d x1 x2 x3 h Q := by
  intro v4
  refine At_iload_n (pc' := 21) iX11_pulled_20 rfl rfl ?_
  refine At_aload_n (pc' := 22) iX11_pulled_21 rfl rfl ?_
  refine At_getR (pc' := 25) iX11_pulled_22 rfl f_11_7 (kdK eT (kd_59 hL)) (by decide) (rfH eT (rf_59_0 hL)) ?_
  refine At_iconst (v := nI 0) (pc' := 26) iX11_pulled_25 rfl (by decide) ?_
  refine At_iald (pc' := 27) iX11_pulled_26 rfl (kdH eT (kd_60 hL)) (by decide) (show At (d + 1) MX11_pulled 27 [.ref 59, .int x1, .int x2, .int x3, v4] [.int (gI h 60 0), .int x3] h Q from ?_)
  refine At_icmp_ge (t := 114) (pc' := 30) iX11_pulled_27 (by decide) rfl (fun c27 => ?_) (fun c27 => ?_)
  · have hv := hv.2 c27
    refine At_iload_n (pc' := 115) iX11_pulled_114 rfl rfl ?_
    refine At_iconst (v := (-1)) (pc' := 116) iX11_pulled_115 rfl (by decide) ?_
    refine At_icmp_ne (t := 128) (pc' := 119) iX11_pulled_116 (by decide) rfl (fun c116 => ?_) (fun c116 => ?_)
    · have hv := hv.2 c116
      refine At_iconst (v := (-1)) (pc' := 129) iX11_pulled_128 rfl (by decide) ?_
      exact At_retI iX11_pulled_129 rfl hv
    · have hv := hv.1 c116
      refine At_aload_n (pc' := 120) iX11_pulled_119 rfl rfl ?_
      refine At_getR (pc' := 123) iX11_pulled_120 rfl f_11_7 (kdK eT (kd_59 hL)) (by decide) (rfH eT (rf_59_0 hL)) ?_
      refine At_iconst (v := nI 0) (pc' := 124) iX11_pulled_123 rfl (by decide) ?_
      refine At_iald (pc' := 125) iX11_pulled_124 rfl (kdH eT (kd_60 hL)) (by decide) (show At (d + 1) MX11_pulled 125 [.ref 59, .int x1, .int x2, .int x3, v4] [.int (gI h 60 0)] h Q from ?_)
      refine At_goto (t := 129) iX11_pulled_125 (by decide) ?_
      exact At_retI iX11_pulled_129 rfl hv
  · have hv := hv.1 c27
    refine At_iconst (v := nI 0) (pc' := 31) iX11_pulled_30 rfl (by decide) ?_
    refine At_istore (L' := [.ref 59, .int x1, .int x2, .int x3, .int (nI 0)]) (pc' := 33) iX11_pulled_31 rfl (Nat.le_of_ble_eq_true rfl) rfl ?_
    exact hv
set_option maxRecDepth 20000 in
theorem b_X11_pulled_33 {d : Nat} {T : HT} (hL : Lay T) {h : Hp} (eT : h.2.2 = T) (x1 : Int32) (x2 : Int32) (x3 : Int32) (x4 : Int32)  {Q : Option Value → Hp → Prop} (hv : ((x4 < (gI h 60 0)) → (((((x2 >>> (x4 &&& 31)) &&& (nI 1)) = 0) → (L_X11_pulled_33 d x1 x2 x3 (x4 + nI 1) h Q)) ∧ (¬ (((x2 >>> (x4 &&& 31)) &&& (nI 1)) = 0) → (CallZ (d + 0) MX11_isFree [.ref 59, .int x4, .int x2] h (fun r57 h57 => h57.2.2 = T ∧ (((r57 = true) → (((x4 = (gI h57 60 0)) → (((x1 = (-1)) → (Q (some (.int x3)) h57)) ∧ (¬ (x1 = (-1)) → (Q (some (.int (-1))) h57)))) ∧ (¬ (x4 = (gI h57 60 0)) → (((x3 = x1) → (Q (some (.int x4)) h57)) ∧ (¬ (x3 = x1) → (L_X11_pulled_20 d x1 (x2 &&& (((nI 1) <<< (x4 &&& 31)) ^^^ (-1))) (x3 + nI 1) h57 Q)))))) ∧ (¬ (r57 = true) → (L_X11_pulled_33 d x1 x2 x3 (x4 + nI 1) h57 Q)))))))) ∧ (¬ (x4 < (gI h 60 0)) → (((x4 = (gI h 60 0)) → (((x1 = (-1)) → (Q (some (.int x3)) h)) ∧ (¬ (x1 = (-1)) → (Q (some (.int (-1))) h)))) ∧ (¬ (x4 = (gI h 60 0)) → (((x3 = x1) → (Q (some (.int x4)) h)) ∧ (¬ (x3 = x1) → (L_X11_pulled_20 d x1 (x2 &&& (((nI 1) <<< (x4 &&& 31)) ^^^ (-1))) (x3 + nI 1) h Q))))))) : L_X11_pulled_33 d x1 x2 x3 x4 h Q := by
  refine At_iload (pc' := 35) iX11_pulled_33 rfl rfl ?_
  refine At_aload_n (pc' := 36) iX11_pulled_35 rfl rfl ?_
  refine At_getR (pc' := 39) iX11_pulled_36 rfl f_11_7 (kdK eT (kd_59 hL)) (by decide) (rfH eT (rf_59_0 hL)) ?_
  refine At_iconst (v := nI 0) (pc' := 40) iX11_pulled_39 rfl (by decide) ?_
  refine At_iald (pc' := 41) iX11_pulled_40 rfl (kdH eT (kd_60 hL)) (by decide) (show At (d + 1) MX11_pulled 41 [.ref 59, .int x1, .int x2, .int x3, .int x4] [.int (gI h 60 0), .int x4] h Q from ?_)
  refine At_icmp_ge (t := 69) (pc' := 44) iX11_pulled_41 (by decide) rfl (fun c41 => ?_) (fun c41 => ?_)
  · have hv := hv.2 c41
    refine At_iload (pc' := 71) iX11_pulled_69 rfl rfl ?_
    refine At_aload_n (pc' := 72) iX11_pulled_71 rfl rfl ?_
    refine At_getR (pc' := 75) iX11_pulled_72 rfl f_11_7 (kdK eT (kd_59 hL)) (by decide) (rfH eT (rf_59_0 hL)) ?_
    refine At_iconst (v := nI 0) (pc' := 76) iX11_pulled_75 rfl (by decide) ?_
    refine At_iald (pc' := 77) iX11_pulled_76 rfl (kdH eT (kd_60 hL)) (by decide) (show At (d + 1) MX11_pulled 77 [.ref 59, .int x1, .int x2, .int x3, .int x4] [.int (gI h 60 0), .int x4] h Q from ?_)
    refine At_icmp_ne (t := 91) (pc' := 80) iX11_pulled_77 (by decide) rfl (fun c77 => ?_) (fun c77 => ?_)
    · have hv := hv.2 c77
      refine At_iload_n (pc' := 92) iX11_pulled_91 rfl rfl ?_
      refine At_iload_n (pc' := 93) iX11_pulled_92 rfl rfl ?_
      refine At_icmp_ne (t := 99) (pc' := 96) iX11_pulled_93 (by decide) rfl (fun c93 => ?_) (fun c93 => ?_)
      · have hv := hv.2 c93
        refine At_iload_n (pc' := 100) iX11_pulled_99 rfl rfl ?_
        refine At_iconst (v := nI 1) (pc' := 101) iX11_pulled_100 rfl (by decide) ?_
        refine At_iload (pc' := 103) iX11_pulled_101 rfl rfl ?_
        refine At_ishl (pc' := 104) iX11_pulled_103 rfl ?_
        refine At_iconst (v := (-1)) (pc' := 105) iX11_pulled_104 rfl (by decide) ?_
        refine At_ixor (pc' := 106) iX11_pulled_105 rfl ?_
        refine At_iand (pc' := 107) iX11_pulled_106 rfl ?_
        refine At_istore_n (L' := [.ref 59, .int x1, .int (x2 &&& (((nI 1) <<< (x4 &&& 31)) ^^^ (-1))), .int x3, .int x4]) (pc' := 108) iX11_pulled_107 rfl (Nat.le_of_ble_eq_true rfl) rfl ?_
        refine At_iinc (v := nI 1) (L' := [.ref 59, .int x1, .int (x2 &&& (((nI 1) <<< (x4 &&& 31)) ^^^ (-1))), .int (x3 + nI 1), .int x4]) (pc' := 111) iX11_pulled_108 rfl rfl (Nat.le_of_ble_eq_true rfl) (by decide) rfl ?_
        refine At_goto (t := 20) iX11_pulled_111 (by decide) ?_
        exact hv _
      · have hv := hv.1 c93
        refine At_iload (pc' := 98) iX11_pulled_96 rfl rfl ?_
        exact At_retI iX11_pulled_98 rfl hv
    · have hv := hv.1 c77
      refine At_iload_n (pc' := 81) iX11_pulled_80 rfl rfl ?_
      refine At_iconst (v := (-1)) (pc' := 82) iX11_pulled_81 rfl (by decide) ?_
      refine At_icmp_ne (t := 89) (pc' := 85) iX11_pulled_82 (by decide) rfl (fun c82 => ?_) (fun c82 => ?_)
      · have hv := hv.2 c82
        refine At_iconst (v := (-1)) (pc' := 90) iX11_pulled_89 rfl (by decide) ?_
        exact At_retI iX11_pulled_90 rfl hv
      · have hv := hv.1 c82
        refine At_iload_n (pc' := 86) iX11_pulled_85 rfl rfl ?_
        refine At_goto (t := 90) iX11_pulled_86 (by decide) ?_
        exact At_retI iX11_pulled_90 rfl hv
  · have hv := hv.1 c41
    refine At_iload_n (pc' := 45) iX11_pulled_44 rfl rfl ?_
    refine At_iload (pc' := 47) iX11_pulled_45 rfl rfl ?_
    refine At_ishr (pc' := 48) iX11_pulled_47 rfl ?_
    refine At_iconst (v := nI 1) (pc' := 49) iX11_pulled_48 rfl (by decide) ?_
    refine At_iand (pc' := 50) iX11_pulled_49 rfl ?_
    refine At_if_eq (t := 63) (pc' := 53) iX11_pulled_50 (by decide) rfl (fun c50 => ?_) (fun c50 => ?_)
    · have hv := hv.1 c50
      refine At_iinc (v := nI 1) (L' := [.ref 59, .int x1, .int x2, .int x3, .int (x4 + nI 1)]) (pc' := 66) iX11_pulled_63 rfl rfl (Nat.le_of_ble_eq_true rfl) (by decide) rfl ?_
      refine At_goto (t := 33) iX11_pulled_66 (by decide) ?_
      exact hv
    · have hv := hv.2 c50
      refine At_aload_n (pc' := 54) iX11_pulled_53 rfl rfl ?_
      refine At_iload (pc' := 56) iX11_pulled_54 rfl rfl ?_
      refine At_iload_n (pc' := 57) iX11_pulled_56 rfl rfl ?_
      refine At_virt (pc' := 60) iX11_pulled_57 rfl m_11_270 rfl rfl (kdK eT (kd_59 hL)) (Nat.le_of_ble_eq_true rfl) (Nat.le_of_ble_eq_true rfl) ?_
      refine At.mono (show CallZ (d + 0) MX11_isFree [.ref 59, .int x4, .int x2] h _ from hv) ?_
      rintro _ h57 ⟨r57, rfl, eT57, hv⟩
      show At (d + 1) MX11_pulled 60 [.ref 59, .int x1, .int x2, .int x3, .int x4] [.int (b2i r57)] h57 Q
      refine At_zne (t := 69) (pc' := 63) iX11_pulled_60 (by decide) rfl (fun c60 => ?_) (fun c60 => ?_)
      · have hv := hv.1 c60
        refine At_iload (pc' := 71) iX11_pulled_69 rfl rfl ?_
        refine At_aload_n (pc' := 72) iX11_pulled_71 rfl rfl ?_
        refine At_getR (pc' := 75) iX11_pulled_72 rfl f_11_7 (kdK eT57 (kd_59 hL)) (by decide) (rfH eT57 (rf_59_0 hL)) ?_
        refine At_iconst (v := nI 0) (pc' := 76) iX11_pulled_75 rfl (by decide) ?_
        refine At_iald (pc' := 77) iX11_pulled_76 rfl (kdH eT57 (kd_60 hL)) (by decide) (show At (d + 1) MX11_pulled 77 [.ref 59, .int x1, .int x2, .int x3, .int x4] [.int (gI h57 60 0), .int x4] h57 Q from ?_)
        refine At_icmp_ne (t := 91) (pc' := 80) iX11_pulled_77 (by decide) rfl (fun c77 => ?_) (fun c77 => ?_)
        · have hv := hv.2 c77
          refine At_iload_n (pc' := 92) iX11_pulled_91 rfl rfl ?_
          refine At_iload_n (pc' := 93) iX11_pulled_92 rfl rfl ?_
          refine At_icmp_ne (t := 99) (pc' := 96) iX11_pulled_93 (by decide) rfl (fun c93 => ?_) (fun c93 => ?_)
          · have hv := hv.2 c93
            refine At_iload_n (pc' := 100) iX11_pulled_99 rfl rfl ?_
            refine At_iconst (v := nI 1) (pc' := 101) iX11_pulled_100 rfl (by decide) ?_
            refine At_iload (pc' := 103) iX11_pulled_101 rfl rfl ?_
            refine At_ishl (pc' := 104) iX11_pulled_103 rfl ?_
            refine At_iconst (v := (-1)) (pc' := 105) iX11_pulled_104 rfl (by decide) ?_
            refine At_ixor (pc' := 106) iX11_pulled_105 rfl ?_
            refine At_iand (pc' := 107) iX11_pulled_106 rfl ?_
            refine At_istore_n (L' := [.ref 59, .int x1, .int (x2 &&& (((nI 1) <<< (x4 &&& 31)) ^^^ (-1))), .int x3, .int x4]) (pc' := 108) iX11_pulled_107 rfl (Nat.le_of_ble_eq_true rfl) rfl ?_
            refine At_iinc (v := nI 1) (L' := [.ref 59, .int x1, .int (x2 &&& (((nI 1) <<< (x4 &&& 31)) ^^^ (-1))), .int (x3 + nI 1), .int x4]) (pc' := 111) iX11_pulled_108 rfl rfl (Nat.le_of_ble_eq_true rfl) (by decide) rfl ?_
            refine At_goto (t := 20) iX11_pulled_111 (by decide) ?_
            exact hv _
          · have hv := hv.1 c93
            refine At_iload (pc' := 98) iX11_pulled_96 rfl rfl ?_
            exact At_retI iX11_pulled_98 rfl hv
        · have hv := hv.1 c77
          refine At_iload_n (pc' := 81) iX11_pulled_80 rfl rfl ?_
          refine At_iconst (v := (-1)) (pc' := 82) iX11_pulled_81 rfl (by decide) ?_
          refine At_icmp_ne (t := 89) (pc' := 85) iX11_pulled_82 (by decide) rfl (fun c82 => ?_) (fun c82 => ?_)
          · have hv := hv.2 c82
            refine At_iconst (v := (-1)) (pc' := 90) iX11_pulled_89 rfl (by decide) ?_
            exact At_retI iX11_pulled_90 rfl hv
          · have hv := hv.1 c82
            refine At_iload_n (pc' := 86) iX11_pulled_85 rfl rfl ?_
            refine At_goto (t := 90) iX11_pulled_86 (by decide) ?_
            exact At_retI iX11_pulled_90 rfl hv
      · have hv := hv.2 c60
        refine At_iinc (v := nI 1) (L' := [.ref 59, .int x1, .int x2, .int x3, .int (x4 + nI 1)]) (pc' := 66) iX11_pulled_63 rfl rfl (Nat.le_of_ble_eq_true rfl) (by decide) rfl ?_
        refine At_goto (t := 33) iX11_pulled_66 (by decide) ?_
        exact hv
-- X11_ring (calls X11_slotOf)
def L_X11_ring_8 (d : Nat) (x1 : Int32) (x2 : Int32) (x3 : Int32) (h : Hp) (Q : Option Value → Hp → Prop) : Prop := At (d + 1) MX11_ring 8 [.ref 59, .int x1, .int x2, .int x3] [] h Q
set_option maxRecDepth 20000 in
theorem b_X11_ring {d : Nat} {T : HT} (hL : Lay T) {h : Hp} (eT : h.2.2 = T) (x1 : Int32)  {Q : Option Value → Hp → Prop} (hv : CallI (d + 0) MX11_slotOf [.ref 59, .int x1] h (fun r4 h4 => h4.2.2 = T ∧ (L_X11_ring_8 d x1 (nI 1) r4 h4 Q))) : Call (d + 1) MX11_ring [.ref 59, .int x1] h Q := by
  show At (d + 1) MX11_ring 0 [.ref 59, .int x1, un, un] [] h Q
  refine At_iconst (v := nI 1) (pc' := 1) iX11_ring_0 rfl (by decide) ?_
  refine At_istore_n (L' := [.ref 59, .int x1, .int (nI 1), un]) (pc' := 2) iX11_ring_1 rfl (Nat.le_of_ble_eq_true rfl) rfl ?_
  refine At_aload_n (pc' := 3) iX11_ring_2 rfl rfl ?_
  refine At_iload_n (pc' := 4) iX11_ring_3 rfl rfl ?_
  refine At_virt (pc' := 7) iX11_ring_4 rfl m_11_217 rfl rfl (kdK eT (kd_59 hL)) (Nat.le_of_ble_eq_true rfl) (Nat.le_of_ble_eq_true rfl) ?_
  refine At.mono (show CallI (d + 0) MX11_slotOf [.ref 59, .int x1] h _ from hv) ?_
  rintro _ h4 ⟨r4, rfl, eT4, hv⟩
  show At (d + 1) MX11_ring 7 [.ref 59, .int x1, .int (nI 1), un] [.int r4] h4 Q
  refine At_istore_n (L' := [.ref 59, .int x1, .int (nI 1), .int r4]) (pc' := 8) iX11_ring_7 rfl (Nat.le_of_ble_eq_true rfl) rfl ?_
  exact hv
set_option maxRecDepth 20000 in
theorem b_X11_ring_8 {d : Nat} {T : HT} (hL : Lay T) {h : Hp} (eT : h.2.2 = T) (x1 : Int32) (x2 : Int32) (x3 : Int32)  {Q : Option Value → Hp → Prop} (hv : ((x3 = x1) → (Q (some (.int x2)) h)) ∧ (¬ (x3 = x1) → (CallI (d + 0) MX11_slotOf [.ref 59, .int x3] h (fun r18 h18 => h18.2.2 = T ∧ (L_X11_ring_8 d x1 (x2 + nI 1) r18 h18 Q))))) : L_X11_ring_8 d x1 x2 x3 h Q := by
  refine At_iload_n (pc' := 9) iX11_ring_8 rfl rfl ?_
  refine At_iload_n (pc' := 10) iX11_ring_9 rfl rfl ?_
  refine At_icmp_eq (t := 25) (pc' := 13) iX11_ring_10 (by decide) rfl (fun c10 => ?_) (fun c10 => ?_)
  · have hv := hv.1 c10
    refine At_iload_n (pc' := 26) iX11_ring_25 rfl rfl ?_
    exact At_retI iX11_ring_26 rfl hv
  · have hv := hv.2 c10
    refine At_iinc (v := nI 1) (L' := [.ref 59, .int x1, .int (x2 + nI 1), .int x3]) (pc' := 16) iX11_ring_13 rfl rfl (Nat.le_of_ble_eq_true rfl) (by decide) rfl ?_
    refine At_aload_n (pc' := 17) iX11_ring_16 rfl rfl ?_
    refine At_iload_n (pc' := 18) iX11_ring_17 rfl rfl ?_
    refine At_virt (pc' := 21) iX11_ring_18 rfl m_11_217 rfl rfl (kdK eT (kd_59 hL)) (Nat.le_of_ble_eq_true rfl) (Nat.le_of_ble_eq_true rfl) ?_
    refine At.mono (show CallI (d + 0) MX11_slotOf [.ref 59, .int x3] h _ from hv) ?_
    rintro _ h18 ⟨r18, rfl, eT18, hv⟩
    show At (d + 1) MX11_ring 21 [.ref 59, .int x1, .int (x2 + nI 1), .int x3] [.int r18] h18 Q
    refine At_istore_n (L' := [.ref 59, .int x1, .int (x2 + nI 1), .int r18]) (pc' := 22) iX11_ring_21 rfl (Nat.le_of_ble_eq_true rfl) rfl ?_
    refine At_goto (t := 8) iX11_ring_22 (by decide) ?_
    exact hv
-- X11_stool (calls X11_begins)
set_option maxRecDepth 20000 in
theorem b_X11_stool {d : Nat} {T : HT} (hL : Lay T) {h : Hp} (eT : h.2.2 = T) (x1 : Int32)  {Q : Option Value → Hp → Prop} (hv : (((r_X11_isIn x1 (nI 4) (nI 16)) = true) → (CallV (d + 0) MX11_begins [.ref 59, .int x1] h (fun h14 => h14.2.2 = T ∧ (Q (some (.int (b2i true))) h14)))) ∧ (¬ ((r_X11_isIn x1 (nI 4) (nI 16)) = true) → (Q (some (.int (b2i false))) h))) : Call (d + 1) MX11_stool [.ref 59, .int x1] h Q := by
  show At (d + 1) MX11_stool 0 [.ref 59, .int x1] [] h Q
  refine At_iload_n (pc' := 1) iX11_stool_0 rfl rfl ?_
  refine At_iconst (v := nI 4) (pc' := 2) iX11_stool_1 rfl (by decide) ?_
  refine At_bipush (v := nI 16) (pc' := 4) iX11_stool_2 rfl (by decide) ?_
  refine At_stat (pc' := 7) iX11_stool_4 rfl m_11_72 rfl rfl (Nat.le_of_ble_eq_true rfl) (Nat.le_of_ble_eq_true rfl) (Nat.le_of_ble_eq_true rfl) ?_
  refine c_X11_isIn (h := h) x1 (nI 4) (nI 16)   (show At (d + 1) MX11_stool 7 [.ref 59, .int x1] [.int (b2i (r_X11_isIn x1 (nI 4) (nI 16)))] h Q from ?_)
  refine At_zne (t := 12) (pc' := 10) iX11_stool_7 (by decide) rfl (fun c7 => ?_) (fun c7 => ?_)
  · have hv := hv.1 c7
    refine At_aload_n (pc' := 13) iX11_stool_12 rfl rfl ?_
    refine At_iload_n (pc' := 14) iX11_stool_13 rfl rfl ?_
    refine At_virt (pc' := 17) iX11_stool_14 rfl m_11_65 rfl rfl (kdK eT (kd_59 hL)) (Nat.le_of_ble_eq_true rfl) (Nat.le_of_ble_eq_true rfl) ?_
    refine At.mono (show CallV (d + 0) MX11_begins [.ref 59, .int x1] h _ from hv) ?_
    rintro _ h14 ⟨rfl, eT14, hv⟩
    show At (d + 1) MX11_stool 17 [.ref 59, .int x1] [] h14 Q
    refine At_iconst (v := nI 1) (pc' := 18) iX11_stool_17 rfl (by decide) ?_
    exact At_retT iX11_stool_18 rfl hv
  · have hv := hv.2 c7
    refine At_iconst (v := nI 0) (pc' := 11) iX11_stool_10 rfl (by decide) ?_
    exact At_retF iX11_stool_11 rfl hv
-- X11_word (calls X11_is)
set_option maxRecDepth 20000 in
theorem b_X11_word {d : Nat} {T : HT} (hL : Lay T) {h : Hp} (eT : h.2.2 = T)   {Q : Option Value → Hp → Prop} (hv : CallZ (d + 0) MX11_is [.ref 59, .ref (1000000 + 0)] h (fun r3 h3 => h3.2.2 = T ∧ (((r3 = true) → (Q (some (.int (nI 3))) h3)) ∧ (¬ (r3 = true) → (CallZ (d + 0) MX11_is [.ref 59, .ref (1000000 + 1)] h3 (fun r14 h14 => h14.2.2 = T ∧ (((r14 = true) → (Q (some (.int (nI 4))) h14)) ∧ (¬ (r14 = true) → (CallZ (d + 0) MX11_is [.ref 59, .ref (1000000 + 2)] h14 (fun r25 h25 => h25.2.2 = T ∧ (((r25 = true) → (Q (some (.int (nI 5))) h25)) ∧ (¬ (r25 = true) → (CallZ (d + 0) MX11_is [.ref 59, .ref (1000000 + 3)] h25 (fun r36 h36 => h36.2.2 = T ∧ (((r36 = true) → (Q (some (.int (nI 6))) h36)) ∧ (¬ (r36 = true) → (CallZ (d + 0) MX11_is [.ref 59, .ref (1000000 + 4)] h36 (fun r48 h48 => h48.2.2 = T ∧ (((r48 = true) → (Q (some (.int (nI 7))) h48)) ∧ (¬ (r48 = true) → (CallZ (d + 0) MX11_is [.ref 59, .ref (1000000 + 5)] h48 (fun r60 h60 => h60.2.2 = T ∧ (((r60 = true) → (Q (some (.int (nI 8))) h60)) ∧ (¬ (r60 = true) → (Q (some (.int (nI 1))) h60))))))))))))))))))))))))) : Call (d + 1) MX11_word [.ref 59] h Q := by
  show At (d + 1) MX11_word 0 [.ref 59] [] h Q
  refine At_aload_n (pc' := 1) iX11_word_0 rfl rfl ?_
  refine At_ldcS (v := 0) (pc' := 3) iX11_word_1 rfl rfl rfl ?_
  refine At_virt (pc' := 6) iX11_word_3 rfl m_11_103 rfl rfl (kdK eT (kd_59 hL)) (Nat.le_of_ble_eq_true rfl) (Nat.le_of_ble_eq_true rfl) ?_
  refine At.mono (show CallZ (d + 0) MX11_is [.ref 59, .ref (1000000 + 0)] h _ from hv) ?_
  rintro _ h3 ⟨r3, rfl, eT3, hv⟩
  show At (d + 1) MX11_word 6 [.ref 59] [.int (b2i r3)] h3 Q
  refine At_zeq (t := 11) (pc' := 9) iX11_word_6 (by decide) rfl (fun c6 => ?_) (fun c6 => ?_)
  · have hv := hv.2 c6
    refine At_aload_n (pc' := 12) iX11_word_11 rfl rfl ?_
    refine At_ldcS (v := 1) (pc' := 14) iX11_word_12 rfl rfl rfl ?_
    refine At_virt (pc' := 17) iX11_word_14 rfl m_11_103 rfl rfl (kdK eT3 (kd_59 hL)) (Nat.le_of_ble_eq_true rfl) (Nat.le_of_ble_eq_true rfl) ?_
    refine At.mono (show CallZ (d + 0) MX11_is [.ref 59, .ref (1000000 + 1)] h3 _ from hv) ?_
    rintro _ h14 ⟨r14, rfl, eT14, hv⟩
    show At (d + 1) MX11_word 17 [.ref 59] [.int (b2i r14)] h14 Q
    refine At_zeq (t := 22) (pc' := 20) iX11_word_17 (by decide) rfl (fun c17 => ?_) (fun c17 => ?_)
    · have hv := hv.2 c17
      refine At_aload_n (pc' := 23) iX11_word_22 rfl rfl ?_
      refine At_ldcS (v := 2) (pc' := 25) iX11_word_23 rfl rfl rfl ?_
      refine At_virt (pc' := 28) iX11_word_25 rfl m_11_103 rfl rfl (kdK eT14 (kd_59 hL)) (Nat.le_of_ble_eq_true rfl) (Nat.le_of_ble_eq_true rfl) ?_
      refine At.mono (show CallZ (d + 0) MX11_is [.ref 59, .ref (1000000 + 2)] h14 _ from hv) ?_
      rintro _ h25 ⟨r25, rfl, eT25, hv⟩
      show At (d + 1) MX11_word 28 [.ref 59] [.int (b2i r25)] h25 Q
      refine At_zeq (t := 33) (pc' := 31) iX11_word_28 (by decide) rfl (fun c28 => ?_) (fun c28 => ?_)
      · have hv := hv.2 c28
        refine At_aload_n (pc' := 34) iX11_word_33 rfl rfl ?_
        refine At_ldcS (v := 3) (pc' := 36) iX11_word_34 rfl rfl rfl ?_
        refine At_virt (pc' := 39) iX11_word_36 rfl m_11_103 rfl rfl (kdK eT25 (kd_59 hL)) (Nat.le_of_ble_eq_true rfl) (Nat.le_of_ble_eq_true rfl) ?_
        refine At.mono (show CallZ (d + 0) MX11_is [.ref 59, .ref (1000000 + 3)] h25 _ from hv) ?_
        rintro _ h36 ⟨r36, rfl, eT36, hv⟩
        show At (d + 1) MX11_word 39 [.ref 59] [.int (b2i r36)] h36 Q
        refine At_zeq (t := 45) (pc' := 42) iX11_word_39 (by decide) rfl (fun c39 => ?_) (fun c39 => ?_)
        · have hv := hv.2 c39
          refine At_aload_n (pc' := 46) iX11_word_45 rfl rfl ?_
          refine At_ldcS (v := 4) (pc' := 48) iX11_word_46 rfl rfl rfl ?_
          refine At_virt (pc' := 51) iX11_word_48 rfl m_11_103 rfl rfl (kdK eT36 (kd_59 hL)) (Nat.le_of_ble_eq_true rfl) (Nat.le_of_ble_eq_true rfl) ?_
          refine At.mono (show CallZ (d + 0) MX11_is [.ref 59, .ref (1000000 + 4)] h36 _ from hv) ?_
          rintro _ h48 ⟨r48, rfl, eT48, hv⟩
          show At (d + 1) MX11_word 51 [.ref 59] [.int (b2i r48)] h48 Q
          refine At_zeq (t := 57) (pc' := 54) iX11_word_51 (by decide) rfl (fun c51 => ?_) (fun c51 => ?_)
          · have hv := hv.2 c51
            refine At_aload_n (pc' := 58) iX11_word_57 rfl rfl ?_
            refine At_ldcS (v := 5) (pc' := 60) iX11_word_58 rfl rfl rfl ?_
            refine At_virt (pc' := 63) iX11_word_60 rfl m_11_103 rfl rfl (kdK eT48 (kd_59 hL)) (Nat.le_of_ble_eq_true rfl) (Nat.le_of_ble_eq_true rfl) ?_
            refine At.mono (show CallZ (d + 0) MX11_is [.ref 59, .ref (1000000 + 5)] h48 _ from hv) ?_
            rintro _ h60 ⟨r60, rfl, eT60, hv⟩
            show At (d + 1) MX11_word 63 [.ref 59] [.int (b2i r60)] h60 Q
            refine At_zeq (t := 71) (pc' := 66) iX11_word_63 (by decide) rfl (fun c63 => ?_) (fun c63 => ?_)
            · have hv := hv.2 c63
              refine At_iconst (v := nI 1) (pc' := 72) iX11_word_71 rfl (by decide) ?_
              exact At_retI iX11_word_72 rfl hv
            · have hv := hv.1 c63
              refine At_bipush (v := nI 8) (pc' := 68) iX11_word_66 rfl (by decide) ?_
              refine At_goto (t := 72) iX11_word_68 (by decide) ?_
              exact At_retI iX11_word_72 rfl hv
          · have hv := hv.1 c51
            refine At_bipush (v := nI 7) (pc' := 56) iX11_word_54 rfl (by decide) ?_
            exact At_retI iX11_word_56 rfl hv
        · have hv := hv.1 c39
          refine At_bipush (v := nI 6) (pc' := 44) iX11_word_42 rfl (by decide) ?_
          exact At_retI iX11_word_44 rfl hv
      · have hv := hv.1 c28
        refine At_iconst (v := nI 5) (pc' := 32) iX11_word_31 rfl (by decide) ?_
        exact At_retI iX11_word_32 rfl hv
    · have hv := hv.1 c17
      refine At_iconst (v := nI 4) (pc' := 21) iX11_word_20 rfl (by decide) ?_
      exact At_retI iX11_word_21 rfl hv
  · have hv := hv.1 c6
    refine At_iconst (v := nI 3) (pc' := 10) iX11_word_9 rfl (by decide) ?_
    exact At_retI iX11_word_10 rfl hv
-- X0_earliest (loop)
def L_X0_earliest_6 (d : Nat) (x1 : Nat) (x2 : Int32) (x3 : Int32) (x4 : Int32) (x5 : Int32) (h : Hp) (Q : Option Value → Hp → Prop) : Prop := ∀ v6 : Value, At (d + 2) MX0_earliest 6 [.ref 50, .ref x1, .int x2, .int x3, .int x4, .int x5, v6] [] h Q
def L_X0_earliest_78 (d : Nat) (x1 : Nat) (x3 : Int32) (x4 : Int32) (h : Hp) (Q : Option Value → Hp → Prop) : Prop := ∀ v1 v2 v5 v6 : Value, At (d + 2) MX0_earliest 78 [.ref 50, v1, v2, .int x3, .int x4, v5, v6] [] h Q
set_option maxRecDepth 20000 in
theorem b_X0_earliest {d : Nat} {T : HT} (hL : Lay T) {h : Hp} (eT : h.2.2 = T) (x1 : Nat) (x2 : Int32) (x3 : Int32) (hA1 : IsX7 T x1) {Q : Option Value → Hp → Prop} (hv : L_X0_earliest_6 d x1 x2 x3 (nI 1) (nI 0) h Q) : Call (d + 2) MX0_earliest [.ref 50, .ref x1, .int x2, .int x3] h Q := by
  show At (d + 2) MX0_earliest 0 [.ref 50, .ref x1, .int x2, .int x3, un, un, un] [] h Q
  refine At_iconst (v := nI 1) (pc' := 1) iX0_earliest_0 rfl (by decide) ?_
  refine At_istore (L' := [.ref 50, .ref x1, .int x2, .int x3, .int (nI 1), un, un]) (pc' := 3) iX0_earliest_1 rfl (Nat.le_of_ble_eq_true rfl) rfl ?_
  refine At_iconst (v := nI 0) (pc' := 4) iX0_earliest_3 rfl (by decide) ?_
  refine At_istore (L' := [.ref 50, .ref x1, .int x2, .int x3, .int (nI 1), .int (nI 0), un]) (pc' := 6) iX0_earliest_4 rfl (Nat.le_of_ble_eq_true rfl) rfl ?_
  exact hv _
set_option maxRecDepth 20000 in
theorem b_X0_earliest_6 {d : Nat} {T : HT} (hL : Lay T) {h : Hp} (eT : h.2.2 = T) (x1 : Nat) (x2 : Int32) (x3 : Int32) (x4 : Int32) (x5 : Int32) (hA1 : IsX7 T x1) {Q : Option Value → Hp → Prop} (hv : ((x5 < x2) → ((inB x5 200 = true) ∧ ((((r_X4_isTurn (gI h (x1 + 1) x5.toNatClampNeg)) = true) → ((((nI 0) = 0) → (L_X0_earliest_6 d x1 x2 x3 x4 (x5 + nI 1) h Q)) ∧ (¬ ((nI 0) = 0) → ((inB x5 200 = true) ∧ (L_X0_earliest_6 d x1 x2 x3 (if x4 < ((gI h 51 x5.toNatClampNeg) + (nI 1)) then (gI h 51 x5.toNatClampNeg) + (nI 1) else x4) (x5 + nI 1) h Q))))) ∧ (¬ ((r_X4_isTurn (gI h (x1 + 1) x5.toNatClampNeg)) = true) → ((inB x2 200 = true) ∧ ((inB x5 200 = true) ∧ ((((r_X4_cross (gI h (x1 + 1) x2.toNatClampNeg) (gI h (x1 + 1) x5.toNatClampNeg)) = true) → ((((nI 1) = 0) → (L_X0_earliest_6 d x1 x2 x3 x4 (x5 + nI 1) h Q)) ∧ (¬ ((nI 1) = 0) → ((inB x5 200 = true) ∧ (L_X0_earliest_6 d x1 x2 x3 (if x4 < ((gI h 51 x5.toNatClampNeg) + (nI 1)) then (gI h 51 x5.toNatClampNeg) + (nI 1) else x4) (x5 + nI 1) h Q))))) ∧ (¬ ((r_X4_cross (gI h (x1 + 1) x2.toNatClampNeg) (gI h (x1 + 1) x5.toNatClampNeg)) = true) → ((((nI 0) = 0) → (L_X0_earliest_6 d x1 x2 x3 x4 (x5 + nI 1) h Q)) ∧ (¬ ((nI 0) = 0) → ((inB x5 200 = true) ∧ (L_X0_earliest_6 d x1 x2 x3 (if x4 < ((gI h 51 x5.toNatClampNeg) + (nI 1)) then (gI h 51 x5.toNatClampNeg) + (nI 1) else x4) (x5 + nI 1) h Q)))))))))))) ∧ (¬ (x5 < x2) → (L_X0_earliest_78 d x1 x3 x4 h Q))) : L_X0_earliest_6 d x1 x2 x3 x4 x5 h Q := by
  intro v6
  refine At_iload (pc' := 8) iX0_earliest_6 rfl rfl ?_
  refine At_iload_n (pc' := 9) iX0_earliest_8 rfl rfl ?_
  refine At_icmp_ge (t := 78) (pc' := 12) iX0_earliest_9 (by decide) rfl (fun c9 => ?_) (fun c9 => ?_)
  · have hv := hv.2 c9
    exact hv _ _ _ _
  · have hv := hv.1 c9
    refine At_aload_n (pc' := 13) iX0_earliest_12 rfl rfl ?_
    refine At_getR (pc' := 16) iX0_earliest_13 rfl f_0_30 (kdK eT (X7_k0 hA1)) (by decide) (rfH eT (X7_r1 hA1)) ?_
    refine At_iload (pc' := 18) iX0_earliest_16 rfl rfl ?_
    obtain ⟨hn1, hv⟩ := hv
    refine At_iald (pc' := 19) iX0_earliest_18 rfl (kdH eT (X7_k1 hA1)) hn1 (show At (d + 2) MX0_earliest 19 [.ref 50, .ref x1, .int x2, .int x3, .int x4, .int x5, v6] [.int (gI h (x1 + 1) x5.toNatClampNeg)] h Q from ?_)
    refine At_stat (pc' := 22) iX0_earliest_19 rfl m_0_33 rfl rfl (Nat.le_of_ble_eq_true rfl) (Nat.le_of_ble_eq_true rfl) (Nat.le_of_ble_eq_true rfl) ?_
    refine c_X4_isTurn (h := h) (gI h (x1 + 1) x5.toNatClampNeg)   (show At (d + 2) MX0_earliest 22 [.ref 50, .ref x1, .int x2, .int x3, .int x4, .int x5, v6] [.int (b2i (r_X4_isTurn (gI h (x1 + 1) x5.toNatClampNeg)))] h Q from ?_)
    refine At_zne (t := 48) (pc' := 25) iX0_earliest_22 (by decide) rfl (fun c22 => ?_) (fun c22 => ?_)
    · have hv := hv.1 c22
      refine At_iconst (v := nI 0) (pc' := 49) iX0_earliest_48 rfl (by decide) ?_
      refine At_istore (L' := [.ref 50, .ref x1, .int x2, .int x3, .int x4, .int x5, .int (nI 0)]) (pc' := 51) iX0_earliest_49 rfl (Nat.le_of_ble_eq_true rfl) rfl ?_
      refine At_iload (pc' := 53) iX0_earliest_51 rfl rfl ?_
      refine At_if_eq (t := 72) (pc' := 56) iX0_earliest_53 (by decide) rfl (fun c53 => ?_) (fun c53 => ?_)
      · have hv := hv.1 c53
        refine At_iinc (v := nI 1) (L' := [.ref 50, .ref x1, .int x2, .int x3, .int x4, .int (x5 + nI 1), .int (nI 0)]) (pc' := 75) iX0_earliest_72 rfl rfl (Nat.le_of_ble_eq_true rfl) (by decide) rfl ?_
        refine At_goto (t := 6) iX0_earliest_75 (by decide) ?_
        exact hv _
      · have hv := hv.2 c53
        refine At_iload (pc' := 58) iX0_earliest_56 rfl rfl ?_
        refine At_aload_n (pc' := 59) iX0_earliest_58 rfl rfl ?_
        refine At_getR (pc' := 62) iX0_earliest_59 rfl f_0_9 (kdK eT (kd_50 hL)) (by decide) (rfH eT (rf_50_0 hL)) ?_
        refine At_iload (pc' := 64) iX0_earliest_62 rfl rfl ?_
        obtain ⟨hn2, hv⟩ := hv
        refine At_iald (pc' := 65) iX0_earliest_64 rfl (kdH eT (kd_51 hL)) hn2 (show At (d + 2) MX0_earliest 65 [.ref 50, .ref x1, .int x2, .int x3, .int x4, .int x5, .int (nI 0)] [.int (gI h 51 x5.toNatClampNeg), .int x4] h Q from ?_)
        refine At_iconst (v := nI 1) (pc' := 66) iX0_earliest_65 rfl (by decide) ?_
        refine At_iadd (pc' := 67) iX0_earliest_66 rfl ?_
        refine At_max (pc' := 70) iX0_earliest_67 rfl m_0_43 (Nat.le_of_ble_eq_true rfl) ?_
        refine At_istore (L' := [.ref 50, .ref x1, .int x2, .int x3, .int (if x4 < ((gI h 51 x5.toNatClampNeg) + (nI 1)) then (gI h 51 x5.toNatClampNeg) + (nI 1) else x4), .int x5, .int (nI 0)]) (pc' := 72) iX0_earliest_70 rfl (Nat.le_of_ble_eq_true rfl) rfl ?_
        refine At_iinc (v := nI 1) (L' := [.ref 50, .ref x1, .int x2, .int x3, .int (if x4 < ((gI h 51 x5.toNatClampNeg) + (nI 1)) then (gI h 51 x5.toNatClampNeg) + (nI 1) else x4), .int (x5 + nI 1), .int (nI 0)]) (pc' := 75) iX0_earliest_72 rfl rfl (Nat.le_of_ble_eq_true rfl) (by decide) rfl ?_
        refine At_goto (t := 6) iX0_earliest_75 (by decide) ?_
        exact hv _
    · have hv := hv.2 c22
      refine At_aload_n (pc' := 26) iX0_earliest_25 rfl rfl ?_
      refine At_getR (pc' := 29) iX0_earliest_26 rfl f_0_30 (kdK eT (X7_k0 hA1)) (by decide) (rfH eT (X7_r1 hA1)) ?_
      refine At_iload_n (pc' := 30) iX0_earliest_29 rfl rfl ?_
      obtain ⟨hn3, hv⟩ := hv
      refine At_iald (pc' := 31) iX0_earliest_30 rfl (kdH eT (X7_k1 hA1)) hn3 (show At (d + 2) MX0_earliest 31 [.ref 50, .ref x1, .int x2, .int x3, .int x4, .int x5, v6] [.int (gI h (x1 + 1) x2.toNatClampNeg)] h Q from ?_)
      refine At_aload_n (pc' := 32) iX0_earliest_31 rfl rfl ?_
      refine At_getR (pc' := 35) iX0_earliest_32 rfl f_0_30 (kdK eT (X7_k0 hA1)) (by decide) (rfH eT (X7_r1 hA1)) ?_
      refine At_iload (pc' := 37) iX0_earliest_35 rfl rfl ?_
      obtain ⟨hn4, hv⟩ := hv
      refine At_iald (pc' := 38) iX0_earliest_37 rfl (kdH eT (X7_k1 hA1)) hn4 (show At (d + 2) MX0_earliest 38 [.ref 50, .ref x1, .int x2, .int x3, .int x4, .int x5, v6] [.int (gI h (x1 + 1) x5.toNatClampNeg), .int (gI h (x1 + 1) x2.toNatClampNeg)] h Q from ?_)
      refine At_stat (pc' := 41) iX0_earliest_38 rfl m_0_49 rfl rfl (Nat.le_of_ble_eq_true rfl) (Nat.le_of_ble_eq_true rfl) (Nat.le_of_ble_eq_true rfl) ?_
      refine c_X4_cross (h := h) (gI h (x1 + 1) x2.toNatClampNeg) (gI h (x1 + 1) x5.toNatClampNeg)   (show At (d + 2) MX0_earliest 41 [.ref 50, .ref x1, .int x2, .int x3, .int x4, .int x5, v6] [.int (b2i (r_X4_cross (gI h (x1 + 1) x2.toNatClampNeg) (gI h (x1 + 1) x5.toNatClampNeg)))] h Q from ?_)
      refine At_zeq (t := 48) (pc' := 44) iX0_earliest_41 (by decide) rfl (fun c41 => ?_) (fun c41 => ?_)
      · have hv := hv.2 c41
        refine At_iconst (v := nI 0) (pc' := 49) iX0_earliest_48 rfl (by decide) ?_
        refine At_istore (L' := [.ref 50, .ref x1, .int x2, .int x3, .int x4, .int x5, .int (nI 0)]) (pc' := 51) iX0_earliest_49 rfl (Nat.le_of_ble_eq_true rfl) rfl ?_
        refine At_iload (pc' := 53) iX0_earliest_51 rfl rfl ?_
        refine At_if_eq (t := 72) (pc' := 56) iX0_earliest_53 (by decide) rfl (fun c53 => ?_) (fun c53 => ?_)
        · have hv := hv.1 c53
          refine At_iinc (v := nI 1) (L' := [.ref 50, .ref x1, .int x2, .int x3, .int x4, .int (x5 + nI 1), .int (nI 0)]) (pc' := 75) iX0_earliest_72 rfl rfl (Nat.le_of_ble_eq_true rfl) (by decide) rfl ?_
          refine At_goto (t := 6) iX0_earliest_75 (by decide) ?_
          exact hv _
        · have hv := hv.2 c53
          refine At_iload (pc' := 58) iX0_earliest_56 rfl rfl ?_
          refine At_aload_n (pc' := 59) iX0_earliest_58 rfl rfl ?_
          refine At_getR (pc' := 62) iX0_earliest_59 rfl f_0_9 (kdK eT (kd_50 hL)) (by decide) (rfH eT (rf_50_0 hL)) ?_
          refine At_iload (pc' := 64) iX0_earliest_62 rfl rfl ?_
          obtain ⟨hn5, hv⟩ := hv
          refine At_iald (pc' := 65) iX0_earliest_64 rfl (kdH eT (kd_51 hL)) hn5 (show At (d + 2) MX0_earliest 65 [.ref 50, .ref x1, .int x2, .int x3, .int x4, .int x5, .int (nI 0)] [.int (gI h 51 x5.toNatClampNeg), .int x4] h Q from ?_)
          refine At_iconst (v := nI 1) (pc' := 66) iX0_earliest_65 rfl (by decide) ?_
          refine At_iadd (pc' := 67) iX0_earliest_66 rfl ?_
          refine At_max (pc' := 70) iX0_earliest_67 rfl m_0_43 (Nat.le_of_ble_eq_true rfl) ?_
          refine At_istore (L' := [.ref 50, .ref x1, .int x2, .int x3, .int (if x4 < ((gI h 51 x5.toNatClampNeg) + (nI 1)) then (gI h 51 x5.toNatClampNeg) + (nI 1) else x4), .int x5, .int (nI 0)]) (pc' := 72) iX0_earliest_70 rfl (Nat.le_of_ble_eq_true rfl) rfl ?_
          refine At_iinc (v := nI 1) (L' := [.ref 50, .ref x1, .int x2, .int x3, .int (if x4 < ((gI h 51 x5.toNatClampNeg) + (nI 1)) then (gI h 51 x5.toNatClampNeg) + (nI 1) else x4), .int (x5 + nI 1), .int (nI 0)]) (pc' := 75) iX0_earliest_72 rfl rfl (Nat.le_of_ble_eq_true rfl) (by decide) rfl ?_
          refine At_goto (t := 6) iX0_earliest_75 (by decide) ?_
          exact hv _
      · have hv := hv.1 c41
        refine At_iconst (v := nI 1) (pc' := 45) iX0_earliest_44 rfl (by decide) ?_
        refine At_goto (t := 49) iX0_earliest_45 (by decide) ?_
        refine At_istore (L' := [.ref 50, .ref x1, .int x2, .int x3, .int x4, .int x5, .int (nI 1)]) (pc' := 51) iX0_earliest_49 rfl (Nat.le_of_ble_eq_true rfl) rfl ?_
        refine At_iload (pc' := 53) iX0_earliest_51 rfl rfl ?_
        refine At_if_eq (t := 72) (pc' := 56) iX0_earliest_53 (by decide) rfl (fun c53 => ?_) (fun c53 => ?_)
        · have hv := hv.1 c53
          refine At_iinc (v := nI 1) (L' := [.ref 50, .ref x1, .int x2, .int x3, .int x4, .int (x5 + nI 1), .int (nI 1)]) (pc' := 75) iX0_earliest_72 rfl rfl (Nat.le_of_ble_eq_true rfl) (by decide) rfl ?_
          refine At_goto (t := 6) iX0_earliest_75 (by decide) ?_
          exact hv _
        · have hv := hv.2 c53
          refine At_iload (pc' := 58) iX0_earliest_56 rfl rfl ?_
          refine At_aload_n (pc' := 59) iX0_earliest_58 rfl rfl ?_
          refine At_getR (pc' := 62) iX0_earliest_59 rfl f_0_9 (kdK eT (kd_50 hL)) (by decide) (rfH eT (rf_50_0 hL)) ?_
          refine At_iload (pc' := 64) iX0_earliest_62 rfl rfl ?_
          obtain ⟨hn6, hv⟩ := hv
          refine At_iald (pc' := 65) iX0_earliest_64 rfl (kdH eT (kd_51 hL)) hn6 (show At (d + 2) MX0_earliest 65 [.ref 50, .ref x1, .int x2, .int x3, .int x4, .int x5, .int (nI 1)] [.int (gI h 51 x5.toNatClampNeg), .int x4] h Q from ?_)
          refine At_iconst (v := nI 1) (pc' := 66) iX0_earliest_65 rfl (by decide) ?_
          refine At_iadd (pc' := 67) iX0_earliest_66 rfl ?_
          refine At_max (pc' := 70) iX0_earliest_67 rfl m_0_43 (Nat.le_of_ble_eq_true rfl) ?_
          refine At_istore (L' := [.ref 50, .ref x1, .int x2, .int x3, .int (if x4 < ((gI h 51 x5.toNatClampNeg) + (nI 1)) then (gI h 51 x5.toNatClampNeg) + (nI 1) else x4), .int x5, .int (nI 1)]) (pc' := 72) iX0_earliest_70 rfl (Nat.le_of_ble_eq_true rfl) rfl ?_
          refine At_iinc (v := nI 1) (L' := [.ref 50, .ref x1, .int x2, .int x3, .int (if x4 < ((gI h 51 x5.toNatClampNeg) + (nI 1)) then (gI h 51 x5.toNatClampNeg) + (nI 1) else x4), .int (x5 + nI 1), .int (nI 1)]) (pc' := 75) iX0_earliest_72 rfl rfl (Nat.le_of_ble_eq_true rfl) (by decide) rfl ?_
          refine At_goto (t := 6) iX0_earliest_75 (by decide) ?_
          exact hv _
set_option maxRecDepth 20000 in
theorem b_X0_earliest_78 {d : Nat} {T : HT} (hL : Lay T) {h : Hp} (eT : h.2.2 = T) (x1 : Nat) (x3 : Int32) (x4 : Int32) (hA1 : IsX7 T x1) {Q : Option Value → Hp → Prop} (hv : ((x4 < (nI 200)) → ((inB x4 202 = true) ∧ ((((gI h 52 x4.toNatClampNeg) < x3) → (Q (some (.int x4)) h)) ∧ (¬ ((gI h 52 x4.toNatClampNeg) < x3) → (L_X0_earliest_78 d x1 x3 (x4 + nI 1) h Q))))) ∧ (¬ (x4 < (nI 200)) → (Q (some (.int x4)) h))) : L_X0_earliest_78 d x1 x3 x4 h Q := by
  intro v1 v2 v5 v6
  refine At_iload (pc' := 80) iX0_earliest_78 rfl rfl ?_
  refine At_sipush (v := nI 200) (pc' := 83) iX0_earliest_80 rfl (by decide) ?_
  refine At_icmp_ge (t := 103) (pc' := 86) iX0_earliest_83 (by decide) rfl (fun c83 => ?_) (fun c83 => ?_)
  · have hv := hv.2 c83
    refine At_iload (pc' := 105) iX0_earliest_103 rfl rfl ?_
    exact At_retI iX0_earliest_105 rfl hv
  · have hv := hv.1 c83
    refine At_aload_n (pc' := 87) iX0_earliest_86 rfl rfl ?_
    refine At_getR (pc' := 90) iX0_earliest_87 rfl f_0_15 (kdK eT (kd_50 hL)) (by decide) (rfH eT (rf_50_1 hL)) ?_
    refine At_iload (pc' := 92) iX0_earliest_90 rfl rfl ?_
    obtain ⟨hn1, hv⟩ := hv
    refine At_iald (pc' := 93) iX0_earliest_92 rfl (kdH eT (kd_52 hL)) hn1 (show At (d + 2) MX0_earliest 93 [.ref 50, v1, v2, .int x3, .int x4, v5, v6] [.int (gI h 52 x4.toNatClampNeg)] h Q from ?_)
    refine At_iload_n (pc' := 94) iX0_earliest_93 rfl rfl ?_
    refine At_icmp_lt (t := 103) (pc' := 97) iX0_earliest_94 (by decide) rfl (fun c94 => ?_) (fun c94 => ?_)
    · have hv := hv.1 c94
      refine At_iload (pc' := 105) iX0_earliest_103 rfl rfl ?_
      exact At_retI iX0_earliest_105 rfl hv
    · have hv := hv.2 c94
      refine At_iinc (v := nI 1) (L' := [.ref 50, v1, v2, .int x3, .int (x4 + nI 1), v5, v6]) (pc' := 100) iX0_earliest_97 rfl rfl (Nat.le_of_ble_eq_true rfl) (by decide) rfl ?_
      refine At_goto (t := 78) iX0_earliest_100 (by decide) ?_
      exact hv _ _ _ _
-- X1_leastFree (loop)
def L_X1_leastFree_2 (d : Nat) (a : Nat) (x1 : Int32) (x2 : Int32) (x3 : Int32) (h : Hp) (Q : Option Value → Hp → Prop) : Prop := At (d + 2) MX1_leastFree 2 [.ref a, .int x1, .int x2, .int x3] [] h Q
set_option maxRecDepth 20000 in
theorem b_X1_leastFree {d : Nat} {T : HT} (hL : Lay T) {h : Hp} (eT : h.2.2 = T) (a : Nat) (x1 : Int32) (x2 : Int32) (hA : IsX1 T a) {Q : Option Value → Hp → Prop} (hv : L_X1_leastFree_2 d a x1 x2 (nI 0) h Q) : Call (d + 2) MX1_leastFree [.ref a, .int x1, .int x2] h Q := by
  show At (d + 2) MX1_leastFree 0 [.ref a, .int x1, .int x2, un] [] h Q
  refine At_iconst (v := nI 0) (pc' := 1) iX1_leastFree_0 rfl (by decide) ?_
  refine At_istore_n (L' := [.ref a, .int x1, .int x2, .int (nI 0)]) (pc' := 2) iX1_leastFree_1 rfl (Nat.le_of_ble_eq_true rfl) rfl ?_
  exact hv
set_option maxRecDepth 20000 in
theorem b_X1_leastFree_2 {d : Nat} {T : HT} (hL : Lay T) {h : Hp} (eT : h.2.2 = T) (a : Nat) (x1 : Int32) (x2 : Int32) (x3 : Int32) (hA : IsX1 T a) {Q : Option Value → Hp → Prop} (hv : ((x3 < x2) → ((((x1 &&& ((nI 1) <<< (x3 &&& 31))) = 0) → (L_X1_leastFree_2 d a x1 x2 (x3 + nI 1) h Q)) ∧ (¬ ((x1 &&& ((nI 1) <<< (x3 &&& 31))) = 0) → (CallZ (d + 1) MX1_isCovered [.ref a, .int x3, .int x1, .int x2] h (fun r19 h19 => h19.2.2 = T ∧ (((r19 = true) → (L_X1_leastFree_2 d a x1 x2 (x3 + nI 1) h19 Q)) ∧ (¬ (r19 = true) → (Q (some (.int x3)) h19)))))))) ∧ (¬ (x3 < x2) → (Q (some (.int (-1))) h))) : L_X1_leastFree_2 d a x1 x2 x3 h Q := by
  refine At_iload_n (pc' := 3) iX1_leastFree_2 rfl rfl ?_
  refine At_iload_n (pc' := 4) iX1_leastFree_3 rfl rfl ?_
  refine At_icmp_ge (t := 33) (pc' := 7) iX1_leastFree_4 (by decide) rfl (fun c4 => ?_) (fun c4 => ?_)
  · have hv := hv.2 c4
    refine At_iconst (v := (-1)) (pc' := 34) iX1_leastFree_33 rfl (by decide) ?_
    exact At_retI iX1_leastFree_34 rfl hv
  · have hv := hv.1 c4
    refine At_iload_n (pc' := 8) iX1_leastFree_7 rfl rfl ?_
    refine At_iconst (v := nI 1) (pc' := 9) iX1_leastFree_8 rfl (by decide) ?_
    refine At_iload_n (pc' := 10) iX1_leastFree_9 rfl rfl ?_
    refine At_ishl (pc' := 11) iX1_leastFree_10 rfl ?_
    refine At_iand (pc' := 12) iX1_leastFree_11 rfl ?_
    refine At_if_eq (t := 27) (pc' := 15) iX1_leastFree_12 (by decide) rfl (fun c12 => ?_) (fun c12 => ?_)
    · have hv := hv.1 c12
      refine At_iinc (v := nI 1) (L' := [.ref a, .int x1, .int x2, .int (x3 + nI 1)]) (pc' := 30) iX1_leastFree_27 rfl rfl (Nat.le_of_ble_eq_true rfl) (by decide) rfl ?_
      refine At_goto (t := 2) iX1_leastFree_30 (by decide) ?_
      exact hv
    · have hv := hv.2 c12
      refine At_aload_n (pc' := 16) iX1_leastFree_15 rfl rfl ?_
      refine At_iload_n (pc' := 17) iX1_leastFree_16 rfl rfl ?_
      refine At_iload_n (pc' := 18) iX1_leastFree_17 rfl rfl ?_
      refine At_iload_n (pc' := 19) iX1_leastFree_18 rfl rfl ?_
      refine At_virt (pc' := 22) iX1_leastFree_19 rfl m_1_105 rfl rfl (kdK eT (X1_k0 hA)) (Nat.le_of_ble_eq_true rfl) (Nat.le_of_ble_eq_true rfl) ?_
      refine At.mono (show CallZ (d + 1) MX1_isCovered [.ref a, .int x3, .int x1, .int x2] h _ from hv) ?_
      rintro _ h19 ⟨r19, rfl, eT19, hv⟩
      show At (d + 2) MX1_leastFree 22 [.ref a, .int x1, .int x2, .int x3] [.int (b2i r19)] h19 Q
      refine At_zne (t := 27) (pc' := 25) iX1_leastFree_22 (by decide) rfl (fun c22 => ?_) (fun c22 => ?_)
      · have hv := hv.1 c22
        refine At_iinc (v := nI 1) (L' := [.ref a, .int x1, .int x2, .int (x3 + nI 1)]) (pc' := 30) iX1_leastFree_27 rfl rfl (Nat.le_of_ble_eq_true rfl) (by decide) rfl ?_
        refine At_goto (t := 2) iX1_leastFree_30 (by decide) ?_
        exact hv
      · have hv := hv.2 c22
        refine At_iload_n (pc' := 26) iX1_leastFree_25 rfl rfl ?_
        exact At_retI iX1_leastFree_26 rfl hv
-- X1_startAnew (calls J7_fill_53178)
set_option maxRecDepth 20000 in
theorem b_X1_startAnew {d : Nat} {T : HT} (hL : Lay T) {h : Hp} (eT : h.2.2 = T) (a : Nat) (x1 : Int32) (hA : IsX1 T a) {Q : Option Value → Hp → Prop} (hv : CallV (d + 1) MJ7_fill_53178 [.ref (a + 1), .int (nI 0)] (sI (sI (sJ h a 0 (r_X6_home x1)) a 2 (nI 0)) a 3 (nI 0)) (fun h23 => h23.2.2 = T ∧ (CallV (d + 1) MJ7_fill_53178 [.ref (a + 2), .int (nI 0)] h23 (fun h31 => h31.2.2 = T ∧ (Q none h31))))) : Call (d + 2) MX1_startAnew [.ref a, .int x1] h Q := by
  show At (d + 2) MX1_startAnew 0 [.ref a, .int x1] [] h Q
  refine At_aload_n (pc' := 1) iX1_startAnew_0 rfl rfl ?_
  refine At_iload_n (pc' := 2) iX1_startAnew_1 rfl rfl ?_
  refine At_stat (pc' := 5) iX1_startAnew_2 rfl m_1_9 rfl rfl (Nat.le_of_ble_eq_true rfl) (Nat.le_of_ble_eq_true rfl) (Nat.le_of_ble_eq_true rfl) ?_
  refine c_X6_home (h := h) x1   (show At (d + 2) MX1_startAnew 5 [.ref a, .int x1] [.long (r_X6_home x1), .ref a] h Q from ?_)
  refine At_putJ (pc' := 8) iX1_startAnew_5 rfl f_1_15 (kdK eT (X1_k0 hA)) (Or.inl rfl) (by decide) ?_
  refine At_aload_n (pc' := 9) iX1_startAnew_8 rfl rfl ?_
  refine At_iconst (v := nI 0) (pc' := 10) iX1_startAnew_9 rfl (by decide) ?_
  refine At_putI (pc' := 13) iX1_startAnew_10 rfl f_1_25 (kdK eT (X1_k0 hA)) (Or.inl rfl) (by decide) ?_
  refine At_aload_n (pc' := 14) iX1_startAnew_13 rfl rfl ?_
  refine At_iconst (v := nI 0) (pc' := 15) iX1_startAnew_14 rfl (by decide) ?_
  refine At_putI (pc' := 18) iX1_startAnew_15 rfl f_1_28 (kdK eT (X1_k0 hA)) (Or.inl rfl) (by decide) ?_
  refine At_aload_n (pc' := 19) iX1_startAnew_18 rfl rfl ?_
  refine At_getR (pc' := 22) iX1_startAnew_19 rfl f_1_31 (kdK eT (X1_k0 hA)) (by decide) (rfH eT (X1_r4 hA)) ?_
  refine At_iconst (v := nI 0) (pc' := 23) iX1_startAnew_22 rfl (by decide) ?_
  refine At_stat (pc' := 26) iX1_startAnew_23 rfl m_1_38 rfl rfl (Nat.le_of_ble_eq_true rfl) (Nat.le_of_ble_eq_true rfl) (Nat.le_of_ble_eq_true rfl) ?_
  refine At.mono (show CallV (d + 1) MJ7_fill_53178 [.ref (a + 1), .int (nI 0)] (sI (sI (sJ h a 0 (r_X6_home x1)) a 2 (nI 0)) a 3 (nI 0)) _ from hv) ?_
  rintro _ h23 ⟨rfl, eT23, hv⟩
  show At (d + 2) MX1_startAnew 26 [.ref a, .int x1] [] h23 Q
  refine At_aload_n (pc' := 27) iX1_startAnew_26 rfl rfl ?_
  refine At_getR (pc' := 30) iX1_startAnew_27 rfl f_1_35 (kdK eT23 (X1_k0 hA)) (by decide) (rfH eT23 (X1_r5 hA)) ?_
  refine At_iconst (v := nI 0) (pc' := 31) iX1_startAnew_30 rfl (by decide) ?_
  refine At_stat (pc' := 34) iX1_startAnew_31 rfl m_1_38 rfl rfl (Nat.le_of_ble_eq_true rfl) (Nat.le_of_ble_eq_true rfl) (Nat.le_of_ble_eq_true rfl) ?_
  refine At.mono (show CallV (d + 1) MJ7_fill_53178 [.ref (a + 2), .int (nI 0)] h23 _ from hv) ?_
  rintro _ h31 ⟨rfl, eT31, hv⟩
  show At (d + 2) MX1_startAnew 34 [.ref a, .int x1] [] h31 Q
  exact At_retV iX1_startAnew_34 rfl hv
-- X3_isSameColours (loop)
def L_X3_isSameColours_3 (d : Nat) (x0 : Int64) (x2 : Int64) (x4 : Int32) (x5 : Int32) (h : Hp) (Q : Option Value → Hp → Prop) : Prop := At (d + 2) MX3_isSameColours 3 [.long x0, un, .long x2, un, .int x4, .int x5] [] h Q
set_option maxRecDepth 20000 in
theorem b_X3_isSameColours {d : Nat} {T : HT} (hL : Lay T) {h : Hp} (eT : h.2.2 = T) (x0 : Int64) (x2 : Int64) (x4 : Int32)  {Q : Option Value → Hp → Prop} (hv : L_X3_isSameColours_3 d x0 x2 x4 (nI 0) h Q) : Call (d + 2) MX3_isSameColours [.long x0, .long x2, .int x4] h Q := by
  show At (d + 2) MX3_isSameColours 0 [.long x0, un, .long x2, un, .int x4, un] [] h Q
  refine At_iconst (v := nI 0) (pc' := 1) iX3_isSameColours_0 rfl (by decide) ?_
  refine At_istore (L' := [.long x0, un, .long x2, un, .int x4, .int (nI 0)]) (pc' := 3) iX3_isSameColours_1 rfl (Nat.le_of_ble_eq_true rfl) rfl ?_
  exact hv
set_option maxRecDepth 20000 in
theorem b_X3_isSameColours_3 {d : Nat} {T : HT} (hL : Lay T) {h : Hp} (eT : h.2.2 = T) (x0 : Int64) (x2 : Int64) (x4 : Int32) (x5 : Int32)  {Q : Option Value → Hp → Prop} (hv : ((x5 < (nI 10)) → (CallI (d + 1) MX3_countOf [.int x5, .long x0, .int x4] h (fun r15 h15 => h15.2.2 = T ∧ (CallI (d + 1) MX3_countOf [.int x5, .long x2, .int x4] h15 (fun r23 h23 => h23.2.2 = T ∧ (((r15 = r23) → (L_X3_isSameColours_3 d x0 x2 x4 (x5 + nI 1) h23 Q)) ∧ (¬ (r15 = r23) → (Q (some (.int (b2i false))) h23)))))))) ∧ (¬ (x5 < (nI 10)) → (Q (some (.int (b2i true))) h))) : L_X3_isSameColours_3 d x0 x2 x4 x5 h Q := by
  refine At_iload (pc' := 5) iX3_isSameColours_3 rfl rfl ?_
  refine At_bipush (v := nI 10) (pc' := 7) iX3_isSameColours_5 rfl (by decide) ?_
  refine At_icmp_ge (t := 37) (pc' := 10) iX3_isSameColours_7 (by decide) rfl (fun c7 => ?_) (fun c7 => ?_)
  · have hv := hv.2 c7
    refine At_iconst (v := nI 1) (pc' := 38) iX3_isSameColours_37 rfl (by decide) ?_
    exact At_retT iX3_isSameColours_38 rfl hv
  · have hv := hv.1 c7
    refine At_iload (pc' := 12) iX3_isSameColours_10 rfl rfl ?_
    refine At_lload_n (pc' := 13) iX3_isSameColours_12 rfl rfl ?_
    refine At_iload (pc' := 15) iX3_isSameColours_13 rfl rfl ?_
    refine At_stat (pc' := 18) iX3_isSameColours_15 rfl m_3_38 rfl rfl (Nat.le_of_ble_eq_true rfl) (Nat.le_of_ble_eq_true rfl) (Nat.le_of_ble_eq_true rfl) ?_
    refine At.mono (show CallI (d + 1) MX3_countOf [.int x5, .long x0, .int x4] h _ from hv) ?_
    rintro _ h15 ⟨r15, rfl, eT15, hv⟩
    show At (d + 2) MX3_isSameColours 18 [.long x0, un, .long x2, un, .int x4, .int x5] [.int r15] h15 Q
    refine At_iload (pc' := 20) iX3_isSameColours_18 rfl rfl ?_
    refine At_lload_n (pc' := 21) iX3_isSameColours_20 rfl rfl ?_
    refine At_iload (pc' := 23) iX3_isSameColours_21 rfl rfl ?_
    refine At_stat (pc' := 26) iX3_isSameColours_23 rfl m_3_38 rfl rfl (Nat.le_of_ble_eq_true rfl) (Nat.le_of_ble_eq_true rfl) (Nat.le_of_ble_eq_true rfl) ?_
    refine At.mono (show CallI (d + 1) MX3_countOf [.int x5, .long x2, .int x4] h15 _ from hv) ?_
    rintro _ h23 ⟨r23, rfl, eT23, hv⟩
    show At (d + 2) MX3_isSameColours 26 [.long x0, un, .long x2, un, .int x4, .int x5] [.int r23, .int r15] h23 Q
    refine At_icmp_eq (t := 31) (pc' := 29) iX3_isSameColours_26 (by decide) rfl (fun c26 => ?_) (fun c26 => ?_)
    · have hv := hv.1 c26
      refine At_iinc (v := nI 1) (L' := [.long x0, un, .long x2, un, .int x4, .int (x5 + nI 1)]) (pc' := 34) iX3_isSameColours_31 rfl rfl (Nat.le_of_ble_eq_true rfl) (by decide) rfl ?_
      refine At_goto (t := 3) iX3_isSameColours_34 (by decide) ?_
      exact hv
    · have hv := hv.2 c26
      refine At_iconst (v := nI 0) (pc' := 30) iX3_isSameColours_29 rfl (by decide) ?_
      exact At_retF iX3_isSameColours_30 rfl hv
-- X5_readClosing (loop)
def L_X5_readClosing_33 (d : Nat) (x1 : Int32) (x2 : Int32) (h : Hp) (Q : Option Value → Hp → Prop) : Prop := ∀ v3 : Value, At (d + 2) MX5_readClosing 33 [.ref 2, .int x1, .int x2, v3] [] h Q
def L_X5_readClosing_56 (d : Nat) (x1 : Int32) (x2 : Int32) (x3 : Int32) (h : Hp) (Q : Option Value → Hp → Prop) : Prop := At (d + 2) MX5_readClosing 56 [.ref 2, .int x1, .int x2, .int x3] [] h Q
set_option maxRecDepth 20000 in
theorem b_X5_readClosing {d : Nat} {T : HT} (hL : Lay T) {h : Hp} (eT : h.2.2 = T)   {Q : Option Value → Hp → Prop} (hv : (((gI h 2 9) = 0) → ((p_X5_fail (nI 1) h) ∧ (Q (some (.int (b2i (r_X5_fail (nI 1) h)))) (w_X5_fail (nI 1) h)))) ∧ (¬ ((gI h 2 9) = 0) → (L_X5_readClosing_33 d (gI (sI h 2 9 ((gI h 2 9) - (nI 1))) 8 0) (nI 1) (sI h 2 9 ((gI h 2 9) - (nI 1))) Q))) : Call (d + 2) MX5_readClosing [.ref 2] h Q := by
  show At (d + 2) MX5_readClosing 0 [.ref 2, un, un, un] [] h Q
  refine At_aload_n (pc' := 1) iX5_readClosing_0 rfl rfl ?_
  refine At_getI (pc' := 4) iX5_readClosing_1 rfl f_5_48 (kdK eT (kd_2 hL)) (by decide) ?_
  refine At_if_ne (t := 13) (pc' := 7) iX5_readClosing_4 (by decide) rfl (fun c4 => ?_) (fun c4 => ?_)
  · have hv := hv.2 c4
    refine At_aload_n (pc' := 14) iX5_readClosing_13 rfl rfl ?_
    refine At_dup (pc' := 15) iX5_readClosing_14 rfl rfl ?_
    refine At_getI (pc' := 18) iX5_readClosing_15 rfl f_5_48 (kdK eT (kd_2 hL)) (by decide) ?_
    refine At_iconst (v := nI 1) (pc' := 19) iX5_readClosing_18 rfl (by decide) ?_
    refine At_isub (pc' := 20) iX5_readClosing_19 rfl ?_
    refine At_putI (pc' := 23) iX5_readClosing_20 rfl f_5_48 (kdK eT (kd_2 hL)) (Or.inl rfl) (by decide) ?_
    refine At_aload_n (pc' := 24) iX5_readClosing_23 rfl rfl ?_
    refine At_getR (pc' := 27) iX5_readClosing_24 rfl f_5_28 (kdK eT (kd_2 hL)) (by decide) (rfH eT (rf_2_3 hL)) ?_
    refine At_getI (pc' := 30) iX5_readClosing_27 rfl f_5_61 (kdK eT (kd_8 hL)) (by decide) ?_
    refine At_istore_n (L' := [.ref 2, .int (gI (sI h 2 9 ((gI h 2 9) - (nI 1))) 8 0), un, un]) (pc' := 31) iX5_readClosing_30 rfl (Nat.le_of_ble_eq_true rfl) rfl ?_
    refine At_iconst (v := nI 1) (pc' := 32) iX5_readClosing_31 rfl (by decide) ?_
    refine At_istore_n (L' := [.ref 2, .int (gI (sI h 2 9 ((gI h 2 9) - (nI 1))) 8 0), .int (nI 1), un]) (pc' := 33) iX5_readClosing_32 rfl (Nat.le_of_ble_eq_true rfl) rfl ?_
    exact hv _
  · have hv := hv.1 c4
    refine At_aload_n (pc' := 8) iX5_readClosing_7 rfl rfl ?_
    refine At_iconst (v := nI 1) (pc' := 9) iX5_readClosing_8 rfl (by decide) ?_
    refine At_virt (pc' := 12) iX5_readClosing_9 rfl m_5_89 rfl rfl (kdK eT (kd_2 hL)) (Nat.le_of_ble_eq_true rfl) (Nat.le_of_ble_eq_true rfl) ?_
    obtain ⟨hn1, hv⟩ := hv
    refine c_X5_fail (h := h) hL eT (nI 1)  hn1 (show At (d + 2) MX5_readClosing 12 [.ref 2, un, un, un] [.int (b2i (r_X5_fail (nI 1) h))] (w_X5_fail (nI 1) h) Q from ?_)
    exact At_retZ iX5_readClosing_12 rfl (b2i_01 _) hv
set_option maxRecDepth 20000 in
theorem b_X5_readClosing_33 {d : Nat} {T : HT} (hL : Lay T) {h : Hp} (eT : h.2.2 = T) (x1 : Int32) (x2 : Int32)  {Q : Option Value → Hp → Prop} (hv : (inB (gI h 2 9) 4 = true) ∧ (((x2 < (gI h 11 ((gI h 2 9).toNatClampNeg))) → ((inB (gI h 2 9) 4 = true) ∧ (L_X5_readClosing_56 d x1 x2 (gI h 10 ((gI h 2 9).toNatClampNeg)) h Q))) ∧ (¬ (x2 < (gI h 11 ((gI h 2 9).toNatClampNeg))) → (Q (some (.int (b2i true))) h)))) : L_X5_readClosing_33 d x1 x2 h Q := by
  intro v3
  refine At_iload_n (pc' := 34) iX5_readClosing_33 rfl rfl ?_
  refine At_aload_n (pc' := 35) iX5_readClosing_34 rfl rfl ?_
  refine At_getR (pc' := 38) iX5_readClosing_35 rfl f_5_55 (kdK eT (kd_2 hL)) (by decide) (rfH eT (rf_2_11 hL)) ?_
  refine At_aload_n (pc' := 39) iX5_readClosing_38 rfl rfl ?_
  refine At_getI (pc' := 42) iX5_readClosing_39 rfl f_5_48 (kdK eT (kd_2 hL)) (by decide) ?_
  obtain ⟨hn1, hv⟩ := hv
  refine At_iald (pc' := 43) iX5_readClosing_42 rfl (kdH eT (kd_11 hL)) hn1 (show At (d + 2) MX5_readClosing 43 [.ref 2, .int x1, .int x2, v3] [.int (gI h 11 ((gI h 2 9).toNatClampNeg)), .int x2] h Q from ?_)
  refine At_icmp_ge (t := 86) (pc' := 46) iX5_readClosing_43 (by decide) rfl (fun c43 => ?_) (fun c43 => ?_)
  · have hv := hv.2 c43
    refine At_iconst (v := nI 1) (pc' := 87) iX5_readClosing_86 rfl (by decide) ?_
    exact At_retT iX5_readClosing_87 rfl hv
  · have hv := hv.1 c43
    refine At_aload_n (pc' := 47) iX5_readClosing_46 rfl rfl ?_
    refine At_getR (pc' := 50) iX5_readClosing_47 rfl f_5_51 (kdK eT (kd_2 hL)) (by decide) (rfH eT (rf_2_10 hL)) ?_
    refine At_aload_n (pc' := 51) iX5_readClosing_50 rfl rfl ?_
    refine At_getI (pc' := 54) iX5_readClosing_51 rfl f_5_48 (kdK eT (kd_2 hL)) (by decide) ?_
    obtain ⟨hn2, hv⟩ := hv
    refine At_iald (pc' := 55) iX5_readClosing_54 rfl (kdH eT (kd_10 hL)) hn2 (show At (d + 2) MX5_readClosing 55 [.ref 2, .int x1, .int x2, v3] [.int (gI h 10 ((gI h 2 9).toNatClampNeg))] h Q from ?_)
    refine At_istore_n (L' := [.ref 2, .int x1, .int x2, .int (gI h 10 ((gI h 2 9).toNatClampNeg))]) (pc' := 56) iX5_readClosing_55 rfl (Nat.le_of_ble_eq_true rfl) rfl ?_
    exact hv
set_option maxRecDepth 20000 in
theorem b_X5_readClosing_56 {d : Nat} {T : HT} (hL : Lay T) {h : Hp} (eT : h.2.2 = T) (x1 : Int32) (x2 : Int32) (x3 : Int32)  {Q : Option Value → Hp → Prop} (hv : ((x3 < x1) → ((inB x3 200 = true) ∧ ((p_X5_append (gI h 9 x3.toNatClampNeg) h) ∧ (L_X5_readClosing_56 d x1 x2 (x3 + nI 1) (w_X5_append (gI h 9 x3.toNatClampNeg) h) Q)))) ∧ (¬ (x3 < x1) → (L_X5_readClosing_33 d x1 (x2 + nI 1) h Q))) : L_X5_readClosing_56 d x1 x2 x3 h Q := by
  refine At_iload_n (pc' := 57) iX5_readClosing_56 rfl rfl ?_
  refine At_iload_n (pc' := 58) iX5_readClosing_57 rfl rfl ?_
  refine At_icmp_ge (t := 80) (pc' := 61) iX5_readClosing_58 (by decide) rfl (fun c58 => ?_) (fun c58 => ?_)
  · have hv := hv.2 c58
    refine At_iinc (v := nI 1) (L' := [.ref 2, .int x1, .int (x2 + nI 1), .int x3]) (pc' := 83) iX5_readClosing_80 rfl rfl (Nat.le_of_ble_eq_true rfl) (by decide) rfl ?_
    refine At_goto (t := 33) iX5_readClosing_83 (by decide) ?_
    exact hv _
  · have hv := hv.1 c58
    refine At_aload_n (pc' := 62) iX5_readClosing_61 rfl rfl ?_
    refine At_aload_n (pc' := 63) iX5_readClosing_62 rfl rfl ?_
    refine At_getR (pc' := 66) iX5_readClosing_63 rfl f_5_28 (kdK eT (kd_2 hL)) (by decide) (rfH eT (rf_2_3 hL)) ?_
    refine At_getR (pc' := 69) iX5_readClosing_66 rfl f_5_123 (kdK eT (kd_8 hL)) (by decide) (rfH eT (rf_8_1 hL)) ?_
    refine At_iload_n (pc' := 70) iX5_readClosing_69 rfl rfl ?_
    obtain ⟨hn1, hv⟩ := hv
    refine At_iald (pc' := 71) iX5_readClosing_70 rfl (kdH eT (kd_9 hL)) hn1 (show At (d + 2) MX5_readClosing 71 [.ref 2, .int x1, .int x2, .int x3] [.int (gI h 9 x3.toNatClampNeg), .ref 2] h Q from ?_)
    refine At_virt (pc' := 74) iX5_readClosing_71 rfl m_5_119 rfl rfl (kdK eT (kd_2 hL)) (Nat.le_of_ble_eq_true rfl) (Nat.le_of_ble_eq_true rfl) ?_
    obtain ⟨hn2, hv⟩ := hv
    refine c_X5_append (h := h) hL eT (gI h 9 x3.toNatClampNeg)  hn2 (show At (d + 2) MX5_readClosing 74 [.ref 2, .int x1, .int x2, .int x3] [] (w_X5_append (gI h 9 x3.toNatClampNeg) h) Q from ?_)
    refine At_iinc (v := nI 1) (L' := [.ref 2, .int x1, .int x2, .int (x3 + nI 1)]) (pc' := 77) iX5_readClosing_74 rfl rfl (Nat.le_of_ble_eq_true rfl) (by decide) rfl ?_
    refine At_goto (t := 56) iX5_readClosing_77 (by decide) ?_
    exact hv
-- X5_readNumber (by choice)
set_option maxRecDepth 20000 in
theorem b_X5_readNumber {d : Nat} {T : HT} (hL : Lay T) {h : Hp} (eT : h.2.2 = T) (x1 : Int32) (x2 : Int32)  {Q : Option Value → Hp → Prop} (hv : CallZ (d + 1) MX5_readToken [.ref 2, .int (nI 2)] h (fun r2 h2 => h2.2.2 = T ∧ (((r2 = true) → ((((gI h2 2 7) < x1) → ((p_X5_fail (nI 2) h2) ∧ ((((r_X5_fail (nI 2) h2) = true) → (Q (some (.int (b2i true))) (w_X5_fail (nI 2) h2))) ∧ (¬ ((r_X5_fail (nI 2) h2) = true) → (Q (some (.int (b2i false))) (w_X5_fail (nI 2) h2)))))) ∧ (¬ ((gI h2 2 7) < x1) → (((x2 < (gI h2 2 7)) → ((p_X5_fail (nI 2) h2) ∧ ((((r_X5_fail (nI 2) h2) = true) → (Q (some (.int (b2i true))) (w_X5_fail (nI 2) h2))) ∧ (¬ ((r_X5_fail (nI 2) h2) = true) → (Q (some (.int (b2i false))) (w_X5_fail (nI 2) h2)))))) ∧ (¬ (x2 < (gI h2 2 7)) → (Q (some (.int (b2i true))) h2)))))) ∧ (¬ (r2 = true) → (Q (some (.int (b2i false))) h2))))) : Call (d + 2) MX5_readNumber [.ref 2, .int x1, .int x2] h Q := by
  show At (d + 2) MX5_readNumber 0 [.ref 2, .int x1, .int x2] [] h Q
  refine At_aload_n (pc' := 1) iX5_readNumber_0 rfl rfl ?_
  refine At_iconst (v := nI 2) (pc' := 2) iX5_readNumber_1 rfl (by decide) ?_
  refine At_virt (pc' := 5) iX5_readNumber_2 rfl m_5_102 rfl rfl (kdK eT (kd_2 hL)) (Nat.le_of_ble_eq_true rfl) (Nat.le_of_ble_eq_true rfl) ?_
  refine At.mono (show CallZ (d + 1) MX5_readToken [.ref 2, .int (nI 2)] h _ from hv) ?_
  rintro _ h2 ⟨r2, rfl, eT2, hv⟩
  show At (d + 2) MX5_readNumber 5 [.ref 2, .int x1, .int x2] [.int (b2i r2)] h2 Q
  refine At_zne (t := 10) (pc' := 8) iX5_readNumber_5 (by decide) rfl (fun c5 => ?_) (fun c5 => ?_)
  · have hv := hv.1 c5
    refine At_aload_n (pc' := 11) iX5_readNumber_10 rfl rfl ?_
    refine At_getI (pc' := 14) iX5_readNumber_11 rfl f_5_41 (kdK eT2 (kd_2 hL)) (by decide) ?_
    refine At_iload_n (pc' := 15) iX5_readNumber_14 rfl rfl ?_
    refine At_icmp_lt (t := 26) (pc' := 18) iX5_readNumber_15 (by decide) rfl (fun c15 => ?_) (fun c15 => ?_)
    · have hv := hv.1 c15
      refine At_aload_n (pc' := 27) iX5_readNumber_26 rfl rfl ?_
      refine At_iconst (v := nI 2) (pc' := 28) iX5_readNumber_27 rfl (by decide) ?_
      refine At_virt (pc' := 31) iX5_readNumber_28 rfl m_5_89 rfl rfl (kdK eT2 (kd_2 hL)) (Nat.le_of_ble_eq_true rfl) (Nat.le_of_ble_eq_true rfl) ?_
      obtain ⟨hn1, hv⟩ := hv
      refine c_X5_fail (h := h2) hL eT2 (nI 2)  hn1 (show At (d + 2) MX5_readNumber 31 [.ref 2, .int x1, .int x2] [.int (b2i (r_X5_fail (nI 2) h2))] (w_X5_fail (nI 2) h2) Q from ?_)
      refine At_zeq (t := 38) (pc' := 34) iX5_readNumber_31 (by decide) rfl (fun c31 => ?_) (fun c31 => ?_)
      · have hv := hv.2 c31
        refine At_iconst (v := nI 0) (pc' := 39) iX5_readNumber_38 rfl (by decide) ?_
        exact At_retF iX5_readNumber_39 rfl hv
      · have hv := hv.1 c31
        refine At_iconst (v := nI 1) (pc' := 35) iX5_readNumber_34 rfl (by decide) ?_
        refine At_goto (t := 39) iX5_readNumber_35 (by decide) ?_
        exact At_retT iX5_readNumber_39 rfl hv
    · have hv := hv.2 c15
      refine At_aload_n (pc' := 19) iX5_readNumber_18 rfl rfl ?_
      refine At_getI (pc' := 22) iX5_readNumber_19 rfl f_5_41 (kdK eT2 (kd_2 hL)) (by decide) ?_
      refine At_iload_n (pc' := 23) iX5_readNumber_22 rfl rfl ?_
      refine At_icmp_le (t := 34) (pc' := 26) iX5_readNumber_23 (by decide) rfl (fun c23 => ?_) (fun c23 => ?_)
      · have hv := hv.2 c23
        refine At_iconst (v := nI 1) (pc' := 35) iX5_readNumber_34 rfl (by decide) ?_
        refine At_goto (t := 39) iX5_readNumber_35 (by decide) ?_
        exact At_retT iX5_readNumber_39 rfl hv
      · have hv := hv.1 c23
        refine At_aload_n (pc' := 27) iX5_readNumber_26 rfl rfl ?_
        refine At_iconst (v := nI 2) (pc' := 28) iX5_readNumber_27 rfl (by decide) ?_
        refine At_virt (pc' := 31) iX5_readNumber_28 rfl m_5_89 rfl rfl (kdK eT2 (kd_2 hL)) (Nat.le_of_ble_eq_true rfl) (Nat.le_of_ble_eq_true rfl) ?_
        obtain ⟨hn2, hv⟩ := hv
        refine c_X5_fail (h := h2) hL eT2 (nI 2)  hn2 (show At (d + 2) MX5_readNumber 31 [.ref 2, .int x1, .int x2] [.int (b2i (r_X5_fail (nI 2) h2))] (w_X5_fail (nI 2) h2) Q from ?_)
        refine At_zeq (t := 38) (pc' := 34) iX5_readNumber_31 (by decide) rfl (fun c31 => ?_) (fun c31 => ?_)
        · have hv := hv.2 c31
          refine At_iconst (v := nI 0) (pc' := 39) iX5_readNumber_38 rfl (by decide) ?_
          exact At_retF iX5_readNumber_39 rfl hv
        · have hv := hv.1 c31
          refine At_iconst (v := nI 1) (pc' := 35) iX5_readNumber_34 rfl (by decide) ?_
          refine At_goto (t := 39) iX5_readNumber_35 (by decide) ?_
          exact At_retT iX5_readNumber_39 rfl hv
  · have hv := hv.2 c5
    refine At_iconst (v := nI 0) (pc' := 9) iX5_readNumber_8 rfl (by decide) ?_
    exact At_retF iX5_readNumber_9 rfl hv
-- X10_of (sw)
set_option maxRecDepth 20000 in
theorem b_X10_of {d : Nat} {T : HT} (hL : Lay T) {h : Hp} (eT : h.2.2 = T) (x1 : Int32) (x2 : Int32)  {Q : Option Value → Hp → Prop} (hv : (((r_X10_isSlot x1 h) = true) → ((x2 = nI 0 → (CallI (d + 1) MX6_slotWith [.long (gJ h 15 0), .int x1, .int (gI h 12 0)] h (fun r54 h54 => h54.2.2 = T ∧ (Q (some (.int r54)) h54)))) ∧ (x2 = nI 1 → (Q (some (.int (r_X6_get (gJ h 12 2) x1))) h)) ∧ (x2 = nI 2 → ((inB x1 16 = true) ∧ (Q (some (.int (gI h 16 x1.toNatClampNeg))) h))) ∧ ((x2.toInt < 0 ∨ 2 < x2.toInt) → (Q (some (.int (-1))) h)))) ∧ (¬ ((r_X10_isSlot x1 h) = true) → (Q (some (.int (-1))) h))) : Call (d + 2) MX10_of [.ref 1, .int x1, .int x2] h Q := by
  show At (d + 2) MX10_of 0 [.ref 1, .int x1, .int x2] [] h Q
  refine At_aload_n (pc' := 1) iX10_of_0 rfl rfl ?_
  refine At_iload_n (pc' := 2) iX10_of_1 rfl rfl ?_
  refine At_virt (pc' := 5) iX10_of_2 rfl m_10_71 rfl rfl (kdK eT (kd_1 hL)) (Nat.le_of_ble_eq_true rfl) (Nat.le_of_ble_eq_true rfl) ?_
  refine c_X10_isSlot (h := h) hL eT x1   (show At (d + 2) MX10_of 5 [.ref 1, .int x1, .int x2] [.int (b2i (r_X10_isSlot x1 h))] h Q from ?_)
  refine At_zne (t := 10) (pc' := 8) iX10_of_5 (by decide) rfl (fun c5 => ?_) (fun c5 => ?_)
  · have hv := hv.1 c5
    refine At_iload_n (pc' := 11) iX10_of_10 rfl rfl ?_
    rcases tabCs x2 0 2 (by decide) with ct11 | ⟨kt, hkt, ct11⟩
    · have hv := hv.2.2.2 ct11
      refine At_tabOut (t := 83) iX10_of_11 ct11 (by decide) ?_
      refine At_iconst (v := (-1)) (pc' := 84) iX10_of_83 rfl (by decide) ?_
      exact At_retI iX10_of_84 rfl hv
    · match kt, hkt, ct11 with
      | 0, _, ct11 =>
        have hv := hv.1 ct11
        refine At_tabC (t := 36) (v := nI 0) ct11 iX10_of_11 (by decide) rfl (by decide) ?_
        refine At_aload_n (pc' := 37) iX10_of_36 rfl rfl ?_
        refine At_getR (pc' := 40) iX10_of_37 rfl f_10_19 (kdK eT (kd_1 hL)) (by decide) (rfH eT (rf_1_1 hL)) ?_
        refine At_getR (pc' := 43) iX10_of_40 rfl f_10_57 (kdK eT (kd_12 hL)) (by decide) (rfH eT (rf_12_6 hL)) ?_
        refine At_getJ (pc' := 46) iX10_of_43 rfl f_10_146 (kdK eT (kd_15 hL)) (by decide) ?_
        refine At_iload_n (pc' := 47) iX10_of_46 rfl rfl ?_
        refine At_aload_n (pc' := 48) iX10_of_47 rfl rfl ?_
        refine At_getR (pc' := 51) iX10_of_48 rfl f_10_19 (kdK eT (kd_1 hL)) (by decide) (rfH eT (rf_1_1 hL)) ?_
        refine At_getI (pc' := 54) iX10_of_51 rfl f_10_109 (kdK eT (kd_12 hL)) (by decide) ?_
        refine At_stat (pc' := 57) iX10_of_54 rfl m_10_153 rfl rfl (Nat.le_of_ble_eq_true rfl) (Nat.le_of_ble_eq_true rfl) (Nat.le_of_ble_eq_true rfl) ?_
        refine At.mono (show CallI (d + 1) MX6_slotWith [.long (gJ h 15 0), .int x1, .int (gI h 12 0)] h _ from hv) ?_
        rintro _ h54 ⟨r54, rfl, eT54, hv⟩
        show At (d + 2) MX10_of 57 [.ref 1, .int x1, .int x2] [.int r54] h54 Q
        exact At_retI iX10_of_57 rfl hv
      | 1, _, ct11 =>
        have hv := hv.2.1 ct11
        refine At_tabC (t := 58) (v := nI 1) ct11 iX10_of_11 (by decide) rfl (by decide) ?_
        refine At_aload_n (pc' := 59) iX10_of_58 rfl rfl ?_
        refine At_getR (pc' := 62) iX10_of_59 rfl f_10_19 (kdK eT (kd_1 hL)) (by decide) (rfH eT (rf_1_1 hL)) ?_
        refine At_getJ (pc' := 65) iX10_of_62 rfl f_10_78 (kdK eT (kd_12 hL)) (by decide) ?_
        refine At_iload_n (pc' := 66) iX10_of_65 rfl rfl ?_
        refine At_stat (pc' := 69) iX10_of_66 rfl m_10_149 rfl rfl (Nat.le_of_ble_eq_true rfl) (Nat.le_of_ble_eq_true rfl) (Nat.le_of_ble_eq_true rfl) ?_
        refine c_X6_get (h := h) (gJ h 12 2) x1   (show At (d + 2) MX10_of 69 [.ref 1, .int x1, .int x2] [.int (r_X6_get (gJ h 12 2) x1)] h Q from ?_)
        exact At_retI iX10_of_69 rfl hv
      | 2, _, ct11 =>
        have hv := hv.2.2.1 ct11
        refine At_tabC (t := 70) (v := nI 2) ct11 iX10_of_11 (by decide) rfl (by decide) ?_
        refine At_aload_n (pc' := 71) iX10_of_70 rfl rfl ?_
        refine At_getR (pc' := 74) iX10_of_71 rfl f_10_19 (kdK eT (kd_1 hL)) (by decide) (rfH eT (rf_1_1 hL)) ?_
        refine At_getR (pc' := 77) iX10_of_74 rfl f_10_57 (kdK eT (kd_12 hL)) (by decide) (rfH eT (rf_12_6 hL)) ?_
        refine At_getR (pc' := 80) iX10_of_77 rfl f_10_157 (kdK eT (kd_15 hL)) (by decide) (rfH eT (rf_15_4 hL)) ?_
        refine At_iload_n (pc' := 81) iX10_of_80 rfl rfl ?_
        obtain ⟨hn1, hv⟩ := hv
        refine At_iald (pc' := 82) iX10_of_81 rfl (kdH eT (kd_16 hL)) hn1 (show At (d + 2) MX10_of 82 [.ref 1, .int x1, .int x2] [.int (gI h 16 x1.toNatClampNeg)] h Q from ?_)
        exact At_retI iX10_of_82 rfl hv
      | k + 3, hkt, _ => exact absurd hkt (by omega)
  · have hv := hv.2 c5
    refine At_iconst (v := (-1)) (pc' := 9) iX10_of_8 rfl (by decide) ?_
    exact At_retI iX10_of_9 rfl hv
-- X10_period (loop)
def L_X10_period_13 (d : Nat) (x1 : Int32) (x2 : Int32) (h : Hp) (Q : Option Value → Hp → Prop) : Prop := At (d + 2) MX10_period 13 [.ref 1, .int x1, .int x2] [] h Q
set_option maxRecDepth 20000 in
theorem b_X10_period {d : Nat} {T : HT} (hL : Lay T) {h : Hp} (eT : h.2.2 = T) (x1 : Int32)  {Q : Option Value → Hp → Prop} (hv : ((x1 < 0) → (Q (some (.int (-1))) h)) ∧ (¬ (x1 < 0) → ((((nI 1) < x1) → (Q (some (.int (-1))) h)) ∧ (¬ ((nI 1) < x1) → (L_X10_period_13 d x1 (nI 1) h Q))))) : Call (d + 2) MX10_period [.ref 1, .int x1] h Q := by
  show At (d + 2) MX10_period 0 [.ref 1, .int x1, un] [] h Q
  refine At_iload_n (pc' := 1) iX10_period_0 rfl rfl ?_
  refine At_if_lt (t := 9) (pc' := 4) iX10_period_1 (by decide) rfl (fun c1 => ?_) (fun c1 => ?_)
  · have hv := hv.1 c1
    refine At_iconst (v := (-1)) (pc' := 10) iX10_period_9 rfl (by decide) ?_
    exact At_retI iX10_period_10 rfl hv
  · have hv := hv.2 c1
    refine At_iload_n (pc' := 5) iX10_period_4 rfl rfl ?_
    refine At_iconst (v := nI 1) (pc' := 6) iX10_period_5 rfl (by decide) ?_
    refine At_icmp_le (t := 11) (pc' := 9) iX10_period_6 (by decide) rfl (fun c6 => ?_) (fun c6 => ?_)
    · have hv := hv.2 c6
      refine At_iconst (v := nI 1) (pc' := 12) iX10_period_11 rfl (by decide) ?_
      refine At_istore_n (L' := [.ref 1, .int x1, .int (nI 1)]) (pc' := 13) iX10_period_12 rfl (Nat.le_of_ble_eq_true rfl) rfl ?_
      exact hv
    · have hv := hv.1 c6
      refine At_iconst (v := (-1)) (pc' := 10) iX10_period_9 rfl (by decide) ?_
      exact At_retI iX10_period_10 rfl hv
set_option maxRecDepth 20000 in
theorem b_X10_period_13 {d : Nat} {T : HT} (hL : Lay T) {h : Hp} (eT : h.2.2 = T) (x1 : Int32) (x2 : Int32)  {Q : Option Value → Hp → Prop} (hv : ((x2 < (gI h 15 3)) → (CallZ (d + 1) MX8_rowsComeAgain [.ref 12, .int x2, .int x1] h (fun r33 h33 => h33.2.2 = T ∧ (((r33 = true) → (Q (some (.int x2)) h33)) ∧ (¬ (r33 = true) → (L_X10_period_13 d x1 (x2 + nI 1) h33 Q)))))) ∧ (¬ (x2 < (gI h 15 3)) → (Q (some (.int (gI h 15 3))) h))) : L_X10_period_13 d x1 x2 h Q := by
  refine At_iload_n (pc' := 14) iX10_period_13 rfl rfl ?_
  refine At_aload_n (pc' := 15) iX10_period_14 rfl rfl ?_
  refine At_getR (pc' := 18) iX10_period_15 rfl f_10_19 (kdK eT (kd_1 hL)) (by decide) (rfH eT (rf_1_1 hL)) ?_
  refine At_getR (pc' := 21) iX10_period_18 rfl f_10_57 (kdK eT (kd_12 hL)) (by decide) (rfH eT (rf_12_6 hL)) ?_
  refine At_getI (pc' := 24) iX10_period_21 rfl f_10_165 (kdK eT (kd_15 hL)) (by decide) ?_
  refine At_icmp_ge (t := 47) (pc' := 27) iX10_period_24 (by decide) rfl (fun c24 => ?_) (fun c24 => ?_)
  · have hv := hv.2 c24
    refine At_aload_n (pc' := 48) iX10_period_47 rfl rfl ?_
    refine At_getR (pc' := 51) iX10_period_48 rfl f_10_19 (kdK eT (kd_1 hL)) (by decide) (rfH eT (rf_1_1 hL)) ?_
    refine At_getR (pc' := 54) iX10_period_51 rfl f_10_57 (kdK eT (kd_12 hL)) (by decide) (rfH eT (rf_12_6 hL)) ?_
    refine At_getI (pc' := 57) iX10_period_54 rfl f_10_165 (kdK eT (kd_15 hL)) (by decide) ?_
    exact At_retI iX10_period_57 rfl hv
  · have hv := hv.1 c24
    refine At_aload_n (pc' := 28) iX10_period_27 rfl rfl ?_
    refine At_getR (pc' := 31) iX10_period_28 rfl f_10_19 (kdK eT (kd_1 hL)) (by decide) (rfH eT (rf_1_1 hL)) ?_
    refine At_iload_n (pc' := 32) iX10_period_31 rfl rfl ?_
    refine At_iload_n (pc' := 33) iX10_period_32 rfl rfl ?_
    refine At_virt (pc' := 36) iX10_period_33 rfl m_10_253 rfl rfl (kdK eT (kd_12 hL)) (Nat.le_of_ble_eq_true rfl) (Nat.le_of_ble_eq_true rfl) ?_
    refine At.mono (show CallZ (d + 1) MX8_rowsComeAgain [.ref 12, .int x2, .int x1] h _ from hv) ?_
    rintro _ h33 ⟨r33, rfl, eT33, hv⟩
    show At (d + 2) MX10_period 36 [.ref 1, .int x1, .int x2] [.int (b2i r33)] h33 Q
    refine At_zeq (t := 41) (pc' := 39) iX10_period_36 (by decide) rfl (fun c36 => ?_) (fun c36 => ?_)
    · have hv := hv.2 c36
      refine At_iinc (v := nI 1) (L' := [.ref 1, .int x1, .int (x2 + nI 1)]) (pc' := 44) iX10_period_41 rfl rfl (Nat.le_of_ble_eq_true rfl) (by decide) rfl ?_
      refine At_goto (t := 13) iX10_period_44 (by decide) ?_
      exact hv
    · have hv := hv.1 c36
      refine At_iload_n (pc' := 40) iX10_period_39 rfl rfl ?_
      exact At_retI iX10_period_40 rfl hv
-- X10_ringOf (loop)
def L_X10_ringOf_7 (d : Nat) (x2 : Int32) (x3 : Int32) (x4 : Int32) (h : Hp) (Q : Option Value → Hp → Prop) : Prop := ∀ v1 : Value, At (d + 2) MX10_ringOf 7 [.ref 1, v1, .int x2, .int x3, .int x4] [] h Q
set_option maxRecDepth 20000 in
theorem b_X10_ringOf {d : Nat} {T : HT} (hL : Lay T) {h : Hp} (eT : h.2.2 = T) (x1 : Int32)  {Q : Option Value → Hp → Prop} (hv : L_X10_ringOf_7 d (nI 0) x1 (nI 0) h Q) : Call (d + 2) MX10_ringOf [.ref 1, .int x1] h Q := by
  show At (d + 2) MX10_ringOf 0 [.ref 1, .int x1, un, un, un] [] h Q
  refine At_iconst (v := nI 0) (pc' := 1) iX10_ringOf_0 rfl (by decide) ?_
  refine At_istore_n (L' := [.ref 1, .int x1, .int (nI 0), un, un]) (pc' := 2) iX10_ringOf_1 rfl (Nat.le_of_ble_eq_true rfl) rfl ?_
  refine At_iload_n (pc' := 3) iX10_ringOf_2 rfl rfl ?_
  refine At_istore_n (L' := [.ref 1, .int x1, .int (nI 0), .int x1, un]) (pc' := 4) iX10_ringOf_3 rfl (Nat.le_of_ble_eq_true rfl) rfl ?_
  refine At_iconst (v := nI 0) (pc' := 5) iX10_ringOf_4 rfl (by decide) ?_
  refine At_istore (L' := [.ref 1, .int x1, .int (nI 0), .int x1, .int (nI 0)]) (pc' := 7) iX10_ringOf_5 rfl (Nat.le_of_ble_eq_true rfl) rfl ?_
  exact hv _
set_option maxRecDepth 20000 in
theorem b_X10_ringOf_7 {d : Nat} {T : HT} (hL : Lay T) {h : Hp} (eT : h.2.2 = T) (x2 : Int32) (x3 : Int32) (x4 : Int32)  {Q : Option Value → Hp → Prop} (hv : ((x4 < (gI h 12 0)) → (CallI (d + 1) MX6_slotWith [.long (gJ h 15 0), .int x3, .int (gI h 12 0)] h (fun r43 h43 => h43.2.2 = T ∧ (L_X10_ringOf_7 d (x2 ||| ((nI 1) <<< (x3 &&& 31))) r43 (x4 + nI 1) h43 Q)))) ∧ (¬ (x4 < (gI h 12 0)) → (Q (some (.int x2)) h))) : L_X10_ringOf_7 d x2 x3 x4 h Q := by
  intro v1
  refine At_iload (pc' := 9) iX10_ringOf_7 rfl rfl ?_
  refine At_aload_n (pc' := 10) iX10_ringOf_9 rfl rfl ?_
  refine At_getR (pc' := 13) iX10_ringOf_10 rfl f_10_19 (kdK eT (kd_1 hL)) (by decide) (rfH eT (rf_1_1 hL)) ?_
  refine At_getI (pc' := 16) iX10_ringOf_13 rfl f_10_109 (kdK eT (kd_12 hL)) (by decide) ?_
  refine At_icmp_ge (t := 53) (pc' := 19) iX10_ringOf_16 (by decide) rfl (fun c16 => ?_) (fun c16 => ?_)
  · have hv := hv.2 c16
    refine At_iload_n (pc' := 54) iX10_ringOf_53 rfl rfl ?_
    exact At_retI iX10_ringOf_54 rfl hv
  · have hv := hv.1 c16
    refine At_iload_n (pc' := 20) iX10_ringOf_19 rfl rfl ?_
    refine At_iconst (v := nI 1) (pc' := 21) iX10_ringOf_20 rfl (by decide) ?_
    refine At_iload_n (pc' := 22) iX10_ringOf_21 rfl rfl ?_
    refine At_ishl (pc' := 23) iX10_ringOf_22 rfl ?_
    refine At_ior (pc' := 24) iX10_ringOf_23 rfl ?_
    refine At_istore_n (L' := [.ref 1, (if 0 = 0 ∧ v1.category = 2 then un else v1), .int (x2 ||| ((nI 1) <<< (x3 &&& 31))), .int x3, .int x4]) (pc' := 25) iX10_ringOf_24 rfl (Nat.le_of_ble_eq_true rfl) rfl ?_
    refine At_aload_n (pc' := 26) iX10_ringOf_25 rfl rfl ?_
    refine At_getR (pc' := 29) iX10_ringOf_26 rfl f_10_19 (kdK eT (kd_1 hL)) (by decide) (rfH eT (rf_1_1 hL)) ?_
    refine At_getR (pc' := 32) iX10_ringOf_29 rfl f_10_57 (kdK eT (kd_12 hL)) (by decide) (rfH eT (rf_12_6 hL)) ?_
    refine At_getJ (pc' := 35) iX10_ringOf_32 rfl f_10_146 (kdK eT (kd_15 hL)) (by decide) ?_
    refine At_iload_n (pc' := 36) iX10_ringOf_35 rfl rfl ?_
    refine At_aload_n (pc' := 37) iX10_ringOf_36 rfl rfl ?_
    refine At_getR (pc' := 40) iX10_ringOf_37 rfl f_10_19 (kdK eT (kd_1 hL)) (by decide) (rfH eT (rf_1_1 hL)) ?_
    refine At_getI (pc' := 43) iX10_ringOf_40 rfl f_10_109 (kdK eT (kd_12 hL)) (by decide) ?_
    refine At_stat (pc' := 46) iX10_ringOf_43 rfl m_10_153 rfl rfl (Nat.le_of_ble_eq_true rfl) (Nat.le_of_ble_eq_true rfl) (Nat.le_of_ble_eq_true rfl) ?_
    refine At.mono (show CallI (d + 1) MX6_slotWith [.long (gJ h 15 0), .int x3, .int (gI h 12 0)] h _ from hv) ?_
    rintro _ h43 ⟨r43, rfl, eT43, hv⟩
    show At (d + 2) MX10_ringOf 46 [.ref 1, (if 0 = 0 ∧ v1.category = 2 then un else v1), .int (x2 ||| ((nI 1) <<< (x3 &&& 31))), .int x3, .int x4] [.int r43] h43 Q
    refine At_istore_n (L' := [.ref 1, (if 0 = 0 ∧ v1.category = 2 then un else v1), .int (x2 ||| ((nI 1) <<< (x3 &&& 31))), .int r43, .int x4]) (pc' := 47) iX10_ringOf_46 rfl (Nat.le_of_ble_eq_true rfl) rfl ?_
    refine At_iinc (v := nI 1) (L' := [.ref 1, (if 0 = 0 ∧ v1.category = 2 then un else v1), .int (x2 ||| ((nI 1) <<< (x3 &&& 31))), .int r43, .int (x4 + nI 1)]) (pc' := 50) iX10_ringOf_47 rfl rfl (Nat.le_of_ble_eq_true rfl) (by decide) rfl ?_
    refine At_goto (t := 7) iX10_ringOf_50 (by decide) ?_
    exact hv _
-- X10_undo (calls X2_goBack)
set_option maxRecDepth 20000 in
theorem b_X10_undo {d : Nat} {T : HT} (hL : Lay T) {h : Hp} (eT : h.2.2 = T)   {Q : Option Value → Hp → Prop} (hv : CallZ (d + 1) MX2_goBack [.ref 28, .ref 15] h (fun r11 h11 => h11.2.2 = T ∧ (Q (some (.int (b2i r11))) h11))) : Call (d + 2) MX10_undo [.ref 1] h Q := by
  show At (d + 2) MX10_undo 0 [.ref 1] [] h Q
  refine At_aload_n (pc' := 1) iX10_undo_0 rfl rfl ?_
  refine At_getR (pc' := 4) iX10_undo_1 rfl f_10_26 (kdK eT (kd_1 hL)) (by decide) (rfH eT (rf_1_2 hL)) ?_
  refine At_aload_n (pc' := 5) iX10_undo_4 rfl rfl ?_
  refine At_getR (pc' := 8) iX10_undo_5 rfl f_10_19 (kdK eT (kd_1 hL)) (by decide) (rfH eT (rf_1_1 hL)) ?_
  refine At_getR (pc' := 11) iX10_undo_8 rfl f_10_57 (kdK eT (kd_12 hL)) (by decide) (rfH eT (rf_12_6 hL)) ?_
  refine At_virt (pc' := 14) iX10_undo_11 rfl m_10_257 rfl rfl (kdK eT (kd_28 hL)) (Nat.le_of_ble_eq_true rfl) (Nat.le_of_ble_eq_true rfl) ?_
  refine At.mono (show CallZ (d + 1) MX2_goBack [.ref 28, .ref 15] h _ from hv) ?_
  rintro _ h11 ⟨r11, rfl, eT11, hv⟩
  show At (d + 2) MX10_undo 14 [.ref 1] [.int (b2i r11)] h11 Q
  exact At_retZ iX10_undo_14 rfl (b2i_01 _) hv
-- X11_laysFar (loop)
def L_X11_laysFar_9 (d : Nat) (x1 : Int32) (x2 : Int32) (h : Hp) (Q : Option Value → Hp → Prop) : Prop := ∀ v3 v4 v5 v6 : Value, At (d + 2) MX11_laysFar 9 [.ref 59, .int x1, .int x2, v3, v4, v5, v6] [] h Q
def L_X11_laysFar_38 (d : Nat) (x1 : Int32) (x2 : Int32) (x3 : Int32) (h : Hp) (Q : Option Value → Hp → Prop) : Prop := ∀ v4 v5 v6 : Value, At (d + 2) MX11_laysFar 38 [.ref 59, .int x1, .int x2, .int x3, v4, v5, v6] [] h Q
def L_X11_laysFar_73 (d : Nat) (x1 : Int32) (x3 : Int32) (h : Hp) (Q : Option Value → Hp → Prop) : Prop := ∀ v2 v4 v5 v6 : Value, At (d + 2) MX11_laysFar 73 [.ref 59, .int x1, v2, .int x3, v4, v5, v6] [] h Q
def L_X11_laysFar_101 (d : Nat) (x1 : Int32) (x3 : Int32) (x4 : Int32) (x5 : Int32) (h : Hp) (Q : Option Value → Hp → Prop) : Prop := ∀ v2 v6 : Value, At (d + 2) MX11_laysFar 101 [.ref 59, .int x1, v2, .int x3, .int x4, .int x5, v6] [] h Q
def L_X11_laysFar_110 (d : Nat) (x1 : Int32) (x3 : Int32) (x4 : Int32) (x5 : Int32) (x6 : Int32) (h : Hp) (Q : Option Value → Hp → Prop) : Prop := ∀ v2 : Value, At (d + 2) MX11_laysFar 110 [.ref 59, .int x1, v2, .int x3, .int x4, .int x5, .int x6] [] h Q
set_option maxRecDepth 20000 in
theorem b_X11_laysFar {d : Nat} {T : HT} (hL : Lay T) {h : Hp} (eT : h.2.2 = T)   {Q : Option Value → Hp → Prop} (hv : L_X11_laysFar_9 d (gI h 60 0) (nI 0) h Q) : Call (d + 2) MX11_laysFar [.ref 59] h Q := by
  show At (d + 2) MX11_laysFar 0 [.ref 59, un, un, un, un, un, un] [] h Q
  refine At_aload_n (pc' := 1) iX11_laysFar_0 rfl rfl ?_
  refine At_getR (pc' := 4) iX11_laysFar_1 rfl f_11_7 (kdK eT (kd_59 hL)) (by decide) (rfH eT (rf_59_0 hL)) ?_
  refine At_iconst (v := nI 0) (pc' := 5) iX11_laysFar_4 rfl (by decide) ?_
  refine At_iald (pc' := 6) iX11_laysFar_5 rfl (kdH eT (kd_60 hL)) (by decide) (show At (d + 2) MX11_laysFar 6 [.ref 59, un, un, un, un, un, un] [.int (gI h 60 0)] h Q from ?_)
  refine At_istore_n (L' := [.ref 59, .int (gI h 60 0), un, un, un, un, un]) (pc' := 7) iX11_laysFar_6 rfl (Nat.le_of_ble_eq_true rfl) rfl ?_
  refine At_iconst (v := nI 0) (pc' := 8) iX11_laysFar_7 rfl (by decide) ?_
  refine At_istore_n (L' := [.ref 59, .int (gI h 60 0), .int (nI 0), un, un, un, un]) (pc' := 9) iX11_laysFar_8 rfl (Nat.le_of_ble_eq_true rfl) rfl ?_
  exact hv _ _ _ _
set_option maxRecDepth 20000 in
theorem b_X11_laysFar_9 {d : Nat} {T : HT} (hL : Lay T) {h : Hp} (eT : h.2.2 = T) (x1 : Int32) (x2 : Int32)  {Q : Option Value → Hp → Prop} (hv : ((x2 < (nI 16384)) → ((inB x2 16384 = true) ∧ (L_X11_laysFar_9 d x1 (x2 + nI 1) (sI h 67 x2.toNatClampNeg (-1)) Q))) ∧ (¬ (x2 < (nI 16384)) → (L_X11_laysFar_38 d x1 (nI 0) (nI 0) (sI h 59 23 (nI 0)) Q))) : L_X11_laysFar_9 d x1 x2 h Q := by
  intro v3 v4 v5 v6
  refine At_iload_n (pc' := 10) iX11_laysFar_9 rfl rfl ?_
  refine At_sipush (v := nI 16384) (pc' := 13) iX11_laysFar_10 rfl (by decide) ?_
  refine At_icmp_ge (t := 29) (pc' := 16) iX11_laysFar_13 (by decide) rfl (fun c13 => ?_) (fun c13 => ?_)
  · have hv := hv.2 c13
    refine At_aload_n (pc' := 30) iX11_laysFar_29 rfl rfl ?_
    refine At_iconst (v := nI 0) (pc' := 31) iX11_laysFar_30 rfl (by decide) ?_
    refine At_putI (pc' := 34) iX11_laysFar_31 rfl f_11_232 (kdK eT (kd_59 hL)) (Or.inl rfl) (by decide) ?_
    refine At_iconst (v := nI 0) (pc' := 35) iX11_laysFar_34 rfl (by decide) ?_
    refine At_istore_n (L' := [.ref 59, .int x1, .int (nI 0), v3, v4, v5, v6]) (pc' := 36) iX11_laysFar_35 rfl (Nat.le_of_ble_eq_true rfl) rfl ?_
    refine At_iconst (v := nI 0) (pc' := 37) iX11_laysFar_36 rfl (by decide) ?_
    refine At_istore_n (L' := [.ref 59, .int x1, .int (nI 0), .int (nI 0), v4, v5, v6]) (pc' := 38) iX11_laysFar_37 rfl (Nat.le_of_ble_eq_true rfl) rfl ?_
    exact hv _ _ _
  · have hv := hv.1 c13
    refine At_aload_n (pc' := 17) iX11_laysFar_16 rfl rfl ?_
    refine At_getR (pc' := 20) iX11_laysFar_17 rfl f_11_35 (kdK eT (kd_59 hL)) (by decide) (rfH eT (rf_59_19 hL)) ?_
    refine At_iload_n (pc' := 21) iX11_laysFar_20 rfl rfl ?_
    refine At_iconst (v := (-1)) (pc' := 22) iX11_laysFar_21 rfl (by decide) ?_
    obtain ⟨hn1, hv⟩ := hv
    refine At_iast (pc' := 23) iX11_laysFar_22 rfl (kdH eT (kd_67 hL)) hn1 (show At (d + 2) MX11_laysFar 23 [.ref 59, .int x1, .int x2, v3, v4, v5, v6] [] (sI h 67 x2.toNatClampNeg (-1)) Q from ?_)
    refine At_iinc (v := nI 1) (L' := [.ref 59, .int x1, .int (x2 + nI 1), v3, v4, v5, v6]) (pc' := 26) iX11_laysFar_23 rfl rfl (Nat.le_of_ble_eq_true rfl) (by decide) rfl ?_
    refine At_goto (t := 9) iX11_laysFar_26 (by decide) ?_
    exact hv _ _ _ _
set_option maxRecDepth 20000 in
theorem b_X11_laysFar_38 {d : Nat} {T : HT} (hL : Lay T) {h : Hp} (eT : h.2.2 = T) (x1 : Int32) (x2 : Int32) (x3 : Int32)  {Q : Option Value → Hp → Prop} (hv : ((x3 < x1) → ((inB ((nI 920) + x3) 4180 = true) ∧ (L_X11_laysFar_38 d x1 (((nI 10) * x2) + (gI h 60 (((nI 920) + x3).toNatClampNeg))) (x3 + nI 1) h Q))) ∧ (¬ (x3 < x1) → (CallV (d + 1) MX11_comes [.ref 59, .int x2, .int (nI 0)] h (fun h68 => h68.2.2 = T ∧ (L_X11_laysFar_73 d x1 (nI 0) h68 Q))))) : L_X11_laysFar_38 d x1 x2 x3 h Q := by
  intro v4 v5 v6
  refine At_iload_n (pc' := 39) iX11_laysFar_38 rfl rfl ?_
  refine At_iload_n (pc' := 40) iX11_laysFar_39 rfl rfl ?_
  refine At_icmp_ge (t := 65) (pc' := 43) iX11_laysFar_40 (by decide) rfl (fun c40 => ?_) (fun c40 => ?_)
  · have hv := hv.2 c40
    refine At_aload_n (pc' := 66) iX11_laysFar_65 rfl rfl ?_
    refine At_iload_n (pc' := 67) iX11_laysFar_66 rfl rfl ?_
    refine At_iconst (v := nI 0) (pc' := 68) iX11_laysFar_67 rfl (by decide) ?_
    refine At_virt (pc' := 71) iX11_laysFar_68 rfl m_11_235 rfl rfl (kdK eT (kd_59 hL)) (Nat.le_of_ble_eq_true rfl) (Nat.le_of_ble_eq_true rfl) ?_
    refine At.mono (show CallV (d + 1) MX11_comes [.ref 59, .int x2, .int (nI 0)] h _ from hv) ?_
    rintro _ h68 ⟨rfl, eT68, hv⟩
    show At (d + 2) MX11_laysFar 71 [.ref 59, .int x1, .int x2, .int x3, v4, v5, v6] [] h68 Q
    refine At_iconst (v := nI 0) (pc' := 72) iX11_laysFar_71 rfl (by decide) ?_
    refine At_istore_n (L' := [.ref 59, .int x1, .int x2, .int (nI 0), v4, v5, v6]) (pc' := 73) iX11_laysFar_72 rfl (Nat.le_of_ble_eq_true rfl) rfl ?_
    exact hv _ _ _ _
  · have hv := hv.1 c40
    refine At_bipush (v := nI 10) (pc' := 45) iX11_laysFar_43 rfl (by decide) ?_
    refine At_iload_n (pc' := 46) iX11_laysFar_45 rfl rfl ?_
    refine At_imul (pc' := 47) iX11_laysFar_46 rfl ?_
    refine At_aload_n (pc' := 48) iX11_laysFar_47 rfl rfl ?_
    refine At_getR (pc' := 51) iX11_laysFar_48 rfl f_11_7 (kdK eT (kd_59 hL)) (by decide) (rfH eT (rf_59_0 hL)) ?_
    refine At_sipush (v := nI 920) (pc' := 54) iX11_laysFar_51 rfl (by decide) ?_
    refine At_iload_n (pc' := 55) iX11_laysFar_54 rfl rfl ?_
    refine At_iadd (pc' := 56) iX11_laysFar_55 rfl ?_
    obtain ⟨hn1, hv⟩ := hv
    refine At_iald (pc' := 57) iX11_laysFar_56 rfl (kdH eT (kd_60 hL)) hn1 (show At (d + 2) MX11_laysFar 57 [.ref 59, .int x1, .int x2, .int x3, v4, v5, v6] [.int (gI h 60 (((nI 920) + x3).toNatClampNeg)), .int ((nI 10) * x2)] h Q from ?_)
    refine At_iadd (pc' := 58) iX11_laysFar_57 rfl ?_
    refine At_istore_n (L' := [.ref 59, .int x1, .int (((nI 10) * x2) + (gI h 60 (((nI 920) + x3).toNatClampNeg))), .int x3, v4, v5, v6]) (pc' := 59) iX11_laysFar_58 rfl (Nat.le_of_ble_eq_true rfl) rfl ?_
    refine At_iinc (v := nI 1) (L' := [.ref 59, .int x1, .int (((nI 10) * x2) + (gI h 60 (((nI 920) + x3).toNatClampNeg))), .int (x3 + nI 1), v4, v5, v6]) (pc' := 62) iX11_laysFar_59 rfl rfl (Nat.le_of_ble_eq_true rfl) (by decide) rfl ?_
    refine At_goto (t := 38) iX11_laysFar_62 (by decide) ?_
    exact hv _ _ _
set_option maxRecDepth 20000 in
theorem b_X11_laysFar_73 {d : Nat} {T : HT} (hL : Lay T) {h : Hp} (eT : h.2.2 = T) (x1 : Int32) (x3 : Int32)  {Q : Option Value → Hp → Prop} (hv : ((x3 < (gI h 59 23)) → ((inB x3 5040 = true) ∧ (CallI (d + 1) MX11_placeOf [.ref 59, .int (gI h 69 x3.toNatClampNeg)] h (fun r92 h92 => h92.2.2 = T ∧ ((inB r92 16384 = true) ∧ (L_X11_laysFar_101 d x1 x3 (gI h92 68 r92.toNatClampNeg) (nI 0) h92 Q)))))) ∧ (¬ (x3 < (gI h 59 23)) → (Q none h))) : L_X11_laysFar_73 d x1 x3 h Q := by
  intro v2 v4 v5 v6
  refine At_iload_n (pc' := 74) iX11_laysFar_73 rfl rfl ?_
  refine At_aload_n (pc' := 75) iX11_laysFar_74 rfl rfl ?_
  refine At_getI (pc' := 78) iX11_laysFar_75 rfl f_11_232 (kdK eT (kd_59 hL)) (by decide) ?_
  refine At_icmp_ge (t := 163) (pc' := 81) iX11_laysFar_78 (by decide) rfl (fun c78 => ?_) (fun c78 => ?_)
  · have hv := hv.2 c78
    exact At_retV iX11_laysFar_163 rfl hv
  · have hv := hv.1 c78
    refine At_aload_n (pc' := 82) iX11_laysFar_81 rfl rfl ?_
    refine At_getR (pc' := 85) iX11_laysFar_82 rfl f_11_38 (kdK eT (kd_59 hL)) (by decide) (rfH eT (rf_59_20 hL)) ?_
    refine At_aload_n (pc' := 86) iX11_laysFar_85 rfl rfl ?_
    refine At_aload_n (pc' := 87) iX11_laysFar_86 rfl rfl ?_
    refine At_getR (pc' := 90) iX11_laysFar_87 rfl f_11_41 (kdK eT (kd_59 hL)) (by decide) (rfH eT (rf_59_21 hL)) ?_
    refine At_iload_n (pc' := 91) iX11_laysFar_90 rfl rfl ?_
    obtain ⟨hn1, hv⟩ := hv
    refine At_iald (pc' := 92) iX11_laysFar_91 rfl (kdH eT (kd_69 hL)) hn1 (show At (d + 2) MX11_laysFar 92 [.ref 59, .int x1, v2, .int x3, v4, v5, v6] [.int (gI h 69 x3.toNatClampNeg), .ref 59, .ref 68] h Q from ?_)
    refine At_virt (pc' := 95) iX11_laysFar_92 rfl m_11_229 rfl rfl (kdK eT (kd_59 hL)) (Nat.le_of_ble_eq_true rfl) (Nat.le_of_ble_eq_true rfl) ?_
    refine At.mono (show CallI (d + 1) MX11_placeOf [.ref 59, .int (gI h 69 x3.toNatClampNeg)] h _ from hv) ?_
    rintro _ h92 ⟨r92, rfl, eT92, hv⟩
    show At (d + 2) MX11_laysFar 95 [.ref 59, .int x1, v2, .int x3, v4, v5, v6] [.int r92, .ref 68] h92 Q
    obtain ⟨hn2, hv⟩ := hv
    refine At_iald (pc' := 96) iX11_laysFar_95 rfl (kdH eT92 (kd_68 hL)) hn2 (show At (d + 2) MX11_laysFar 96 [.ref 59, .int x1, v2, .int x3, v4, v5, v6] [.int (gI h92 68 r92.toNatClampNeg)] h92 Q from ?_)
    refine At_istore (L' := [.ref 59, .int x1, v2, .int x3, .int (gI h92 68 r92.toNatClampNeg), v5, v6]) (pc' := 98) iX11_laysFar_96 rfl (Nat.le_of_ble_eq_true rfl) rfl ?_
    refine At_iconst (v := nI 0) (pc' := 99) iX11_laysFar_98 rfl (by decide) ?_
    refine At_istore (L' := [.ref 59, .int x1, v2, .int x3, .int (gI h92 68 r92.toNatClampNeg), .int (nI 0), v6]) (pc' := 101) iX11_laysFar_99 rfl (Nat.le_of_ble_eq_true rfl) rfl ?_
    exact hv _ _
set_option maxRecDepth 20000 in
theorem b_X11_laysFar_101 {d : Nat} {T : HT} (hL : Lay T) {h : Hp} (eT : h.2.2 = T) (x1 : Int32) (x3 : Int32) (x4 : Int32) (x5 : Int32)  {Q : Option Value → Hp → Prop} (hv : ((x5 < x1) → (L_X11_laysFar_110 d x1 x3 x4 x5 (nI 0) h Q)) ∧ (¬ (x5 < x1) → (L_X11_laysFar_73 d x1 (x3 + nI 1) h Q))) : L_X11_laysFar_101 d x1 x3 x4 x5 h Q := by
  intro v2 v6
  refine At_iload (pc' := 103) iX11_laysFar_101 rfl rfl ?_
  refine At_iload_n (pc' := 104) iX11_laysFar_103 rfl rfl ?_
  refine At_icmp_ge (t := 157) (pc' := 107) iX11_laysFar_104 (by decide) rfl (fun c104 => ?_) (fun c104 => ?_)
  · have hv := hv.2 c104
    refine At_iinc (v := nI 1) (L' := [.ref 59, .int x1, (if 0 = 0 ∧ v2.category = 2 then un else v2), .int (x3 + nI 1), .int x4, .int x5, v6]) (pc' := 160) iX11_laysFar_157 rfl rfl (Nat.le_of_ble_eq_true rfl) (by decide) rfl ?_
    refine At_goto (t := 73) iX11_laysFar_160 (by decide) ?_
    exact hv _ _ _ _
  · have hv := hv.1 c104
    refine At_iconst (v := nI 0) (pc' := 108) iX11_laysFar_107 rfl (by decide) ?_
    refine At_istore (L' := [.ref 59, .int x1, v2, .int x3, .int x4, .int x5, .int (nI 0)]) (pc' := 110) iX11_laysFar_108 rfl (Nat.le_of_ble_eq_true rfl) rfl ?_
    exact hv _
set_option maxRecDepth 20000 in
theorem b_X11_laysFar_110 {d : Nat} {T : HT} (hL : Lay T) {h : Hp} (eT : h.2.2 = T) (x1 : Int32) (x3 : Int32) (x4 : Int32) (x5 : Int32) (x6 : Int32)  {Q : Option Value → Hp → Prop} (hv : ((x6 < x1) → (((x5 = x6) → (L_X11_laysFar_110 d x1 x3 x4 x5 (x6 + nI 1) h Q)) ∧ (¬ (x5 = x6) → ((inB x3 5040 = true) ∧ (CallI (d + 1) MX11_liftedOf [.ref 59, .int (gI h 69 x3.toNatClampNeg), .int x5, .int x6] h (fun r135 h135 => h135.2.2 = T ∧ (CallV (d + 1) MX11_comes [.ref 59, .int r135, .int (x4 + (nI 1))] h135 (fun h142 => h142.2.2 = T ∧ (L_X11_laysFar_110 d x1 x3 x4 x5 (x6 + nI 1) h142 Q))))))))) ∧ (¬ (x6 < x1) → (L_X11_laysFar_101 d x1 x3 x4 (x5 + nI 1) h Q))) : L_X11_laysFar_110 d x1 x3 x4 x5 x6 h Q := by
  intro v2
  refine At_iload (pc' := 112) iX11_laysFar_110 rfl rfl ?_
  refine At_iload_n (pc' := 113) iX11_laysFar_112 rfl rfl ?_
  refine At_icmp_ge (t := 151) (pc' := 116) iX11_laysFar_113 (by decide) rfl (fun c113 => ?_) (fun c113 => ?_)
  · have hv := hv.2 c113
    refine At_iinc (v := nI 1) (L' := [.ref 59, .int x1, v2, .int x3, .int x4, .int (x5 + nI 1), .int x6]) (pc' := 154) iX11_laysFar_151 rfl rfl (Nat.le_of_ble_eq_true rfl) (by decide) rfl ?_
    refine At_goto (t := 101) iX11_laysFar_154 (by decide) ?_
    exact hv _ _
  · have hv := hv.1 c113
    refine At_iload (pc' := 118) iX11_laysFar_116 rfl rfl ?_
    refine At_iload (pc' := 120) iX11_laysFar_118 rfl rfl ?_
    refine At_icmp_eq (t := 145) (pc' := 123) iX11_laysFar_120 (by decide) rfl (fun c120 => ?_) (fun c120 => ?_)
    · have hv := hv.1 c120
      refine At_iinc (v := nI 1) (L' := [.ref 59, .int x1, v2, .int x3, .int x4, .int x5, .int (x6 + nI 1)]) (pc' := 148) iX11_laysFar_145 rfl rfl (Nat.le_of_ble_eq_true rfl) (by decide) rfl ?_
      refine At_goto (t := 110) iX11_laysFar_148 (by decide) ?_
      exact hv _
    · have hv := hv.2 c120
      refine At_aload_n (pc' := 124) iX11_laysFar_123 rfl rfl ?_
      refine At_aload_n (pc' := 125) iX11_laysFar_124 rfl rfl ?_
      refine At_aload_n (pc' := 126) iX11_laysFar_125 rfl rfl ?_
      refine At_getR (pc' := 129) iX11_laysFar_126 rfl f_11_41 (kdK eT (kd_59 hL)) (by decide) (rfH eT (rf_59_21 hL)) ?_
      refine At_iload_n (pc' := 130) iX11_laysFar_129 rfl rfl ?_
      obtain ⟨hn1, hv⟩ := hv
      refine At_iald (pc' := 131) iX11_laysFar_130 rfl (kdH eT (kd_69 hL)) hn1 (show At (d + 2) MX11_laysFar 131 [.ref 59, .int x1, v2, .int x3, .int x4, .int x5, .int x6] [.int (gI h 69 x3.toNatClampNeg), .ref 59, .ref 59] h Q from ?_)
      refine At_iload (pc' := 133) iX11_laysFar_131 rfl rfl ?_
      refine At_iload (pc' := 135) iX11_laysFar_133 rfl rfl ?_
      refine At_virt (pc' := 138) iX11_laysFar_135 rfl m_11_239 rfl rfl (kdK eT (kd_59 hL)) (Nat.le_of_ble_eq_true rfl) (Nat.le_of_ble_eq_true rfl) ?_
      refine At.mono (show CallI (d + 1) MX11_liftedOf [.ref 59, .int (gI h 69 x3.toNatClampNeg), .int x5, .int x6] h _ from hv) ?_
      rintro _ h135 ⟨r135, rfl, eT135, hv⟩
      show At (d + 2) MX11_laysFar 138 [.ref 59, .int x1, v2, .int x3, .int x4, .int x5, .int x6] [.int r135, .ref 59] h135 Q
      refine At_iload (pc' := 140) iX11_laysFar_138 rfl rfl ?_
      refine At_iconst (v := nI 1) (pc' := 141) iX11_laysFar_140 rfl (by decide) ?_
      refine At_iadd (pc' := 142) iX11_laysFar_141 rfl ?_
      refine At_virt (pc' := 145) iX11_laysFar_142 rfl m_11_235 rfl rfl (kdK eT135 (kd_59 hL)) (Nat.le_of_ble_eq_true rfl) (Nat.le_of_ble_eq_true rfl) ?_
      refine At.mono (show CallV (d + 1) MX11_comes [.ref 59, .int r135, .int (x4 + (nI 1))] h135 _ from hv) ?_
      rintro _ h142 ⟨rfl, eT142, hv⟩
      show At (d + 2) MX11_laysFar 145 [.ref 59, .int x1, v2, .int x3, .int x4, .int x5, .int x6] [] h142 Q
      refine At_iinc (v := nI 1) (L' := [.ref 59, .int x1, v2, .int x3, .int x4, .int x5, .int (x6 + nI 1)]) (pc' := 148) iX11_laysFar_145 rfl rfl (Nat.le_of_ble_eq_true rfl) (by decide) rfl ?_
      refine At_goto (t := 110) iX11_laysFar_148 (by decide) ?_
      exact hv _
