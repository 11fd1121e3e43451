-- blocks between loop heads; written out by gen20.py
-- X11_someSteps (loop)
def L_X11_someSteps_2 (d : Nat) (x1 : Int32) (x2 : Int32) (h : Hp) (Q : Option Value → Hp → Prop) : Prop := At (d + 5) MX11_someSteps 2 [.ref 59, .int x1, .int x2] [] h Q
set_option maxRecDepth 20000 in
theorem b_X11_someSteps {d : Nat} {T : HT} (hL : Lay T) {h : Hp} (eT : h.2.2 = T) (x1 : Int32)  {Q : Option Value → Hp → Prop} (hv : L_X11_someSteps_2 d x1 (nI 1) h Q) : Call (d + 5) MX11_someSteps [.ref 59, .int x1] h Q := by
  show At (d + 5) MX11_someSteps 0 [.ref 59, .int x1, un] [] h Q
  refine At_iconst (v := nI 1) (pc' := 1) iX11_someSteps_0 rfl (by decide) ?_
  refine At_istore_n (L' := [.ref 59, .int x1, .int (nI 1)]) (pc' := 2) iX11_someSteps_1 rfl (Nat.le_of_ble_eq_true rfl) rfl ?_
  exact hv
set_option maxRecDepth 20000 in
theorem b_X11_someSteps_2 {d : Nat} {T : HT} (hL : Lay T) {h : Hp} (eT : h.2.2 = T) (x1 : Int32) (x2 : Int32)  {Q : Option Value → Hp → Prop} (hv : ((x2 = 0) → ((x2 = 0 ∨ x2 = 1) ∧ (Q (some (.int x2)) h))) ∧ (¬ (x2 = 0) → ((((r_X11_isIn (gI h 59 10) (nI 3) (nI 8)) = true) → ((((gI h 59 10) = (nI 4)) → ((x2 = 0 ∨ x2 = 1) ∧ (Q (some (.int x2)) h))) ∧ (¬ ((gI h 59 10) = (nI 4)) → ((((gI h 59 10) = (nI 5)) → ((x2 = 0 ∨ x2 = 1) ∧ (Q (some (.int x2)) h))) ∧ (¬ ((gI h 59 10) = (nI 5)) → ((((gI h 59 10) = (nI 8)) → (CallZ (d + 4) MX11_someTimes [.ref 59, .int x1] h (fun r46 h46 => h46.2.2 = T ∧ (L_X11_someSteps_2 d x1 (b2i r46) h46 Q)))) ∧ (¬ ((gI h 59 10) = (nI 8)) → ((((gI h 59 10) = (nI 7)) → (CallZ (d + 4) MX11_aTurn [.ref 59] h (fun r63 h63 => h63.2.2 = T ∧ (L_X11_someSteps_2 d x1 (b2i r63) h63 Q)))) ∧ (¬ ((gI h 59 10) = (nI 7)) → ((((gI h 59 10) = (nI 3)) → (CallZ (d + 4) MX11_aMove [.ref 59, .int (nI 0)] h (fun r83 h83 => h83.2.2 = T ∧ (L_X11_someSteps_2 d x1 (b2i r83) h83 Q)))) ∧ (¬ ((gI h 59 10) = (nI 3)) → (CallZ (d + 4) MX11_aMove [.ref 59, .int (nI 1)] h (fun r83 h83 => h83.2.2 = T ∧ (L_X11_someSteps_2 d x1 (b2i r83) h83 Q)))))))))))))) ∧ (¬ ((r_X11_isIn (gI h 59 10) (nI 3) (nI 8)) = true) → ((x2 = 0 ∨ x2 = 1) ∧ (Q (some (.int x2)) h)))))) : L_X11_someSteps_2 d x1 x2 h Q := by
  refine At_iload_n (pc' := 3) iX11_someSteps_2 rfl rfl ?_
  refine At_if_eq (t := 90) (pc' := 6) iX11_someSteps_3 (by decide) rfl (fun c3 => ?_) (fun c3 => ?_)
  · have hv := hv.1 c3
    refine At_iload_n (pc' := 91) iX11_someSteps_90 rfl rfl ?_
    obtain ⟨hn1, hv⟩ := hv
    exact At_retZ iX11_someSteps_91 rfl hn1 hv
  · have hv := hv.2 c3
    refine At_aload_n (pc' := 7) iX11_someSteps_6 rfl rfl ?_
    refine At_getI (pc' := 10) iX11_someSteps_7 rfl f_11_121 (kdK eT (kd_59 hL)) (by decide) ?_
    refine At_iconst (v := nI 3) (pc' := 11) iX11_someSteps_10 rfl (by decide) ?_
    refine At_bipush (v := nI 8) (pc' := 13) iX11_someSteps_11 rfl (by decide) ?_
    refine At_stat (pc' := 16) iX11_someSteps_13 rfl m_11_72 rfl rfl (Nat.le_of_ble_eq_true rfl) (Nat.le_of_ble_eq_true rfl) (Nat.le_of_ble_eq_true rfl) ?_
    refine c_X11_isIn (h := h) (gI h 59 10) (nI 3) (nI 8)   (show At (d + 5) MX11_someSteps 16 [.ref 59, .int x1, .int x2] [.int (b2i (r_X11_isIn (gI h 59 10) (nI 3) (nI 8)))] h Q from ?_)
    refine At_zeq (t := 90) (pc' := 19) iX11_someSteps_16 (by decide) rfl (fun c16 => ?_) (fun c16 => ?_)
    · have hv := hv.2 c16
      refine At_iload_n (pc' := 91) iX11_someSteps_90 rfl rfl ?_
      obtain ⟨hn2, hv⟩ := hv
      exact At_retZ iX11_someSteps_91 rfl hn2 hv
    · have hv := hv.1 c16
      refine At_aload_n (pc' := 20) iX11_someSteps_19 rfl rfl ?_
      refine At_getI (pc' := 23) iX11_someSteps_20 rfl f_11_121 (kdK eT (kd_59 hL)) (by decide) ?_
      refine At_iconst (v := nI 4) (pc' := 24) iX11_someSteps_23 rfl (by decide) ?_
      refine At_icmp_eq (t := 90) (pc' := 27) iX11_someSteps_24 (by decide) rfl (fun c24 => ?_) (fun c24 => ?_)
      · have hv := hv.1 c24
        refine At_iload_n (pc' := 91) iX11_someSteps_90 rfl rfl ?_
        obtain ⟨hn3, hv⟩ := hv
        exact At_retZ iX11_someSteps_91 rfl hn3 hv
      · have hv := hv.2 c24
        refine At_aload_n (pc' := 28) iX11_someSteps_27 rfl rfl ?_
        refine At_getI (pc' := 31) iX11_someSteps_28 rfl f_11_121 (kdK eT (kd_59 hL)) (by decide) ?_
        refine At_iconst (v := nI 5) (pc' := 32) iX11_someSteps_31 rfl (by decide) ?_
        refine At_icmp_eq (t := 90) (pc' := 35) iX11_someSteps_32 (by decide) rfl (fun c32 => ?_) (fun c32 => ?_)
        · have hv := hv.1 c32
          refine At_iload_n (pc' := 91) iX11_someSteps_90 rfl rfl ?_
          obtain ⟨hn4, hv⟩ := hv
          exact At_retZ iX11_someSteps_91 rfl hn4 hv
        · have hv := hv.2 c32
          refine At_aload_n (pc' := 36) iX11_someSteps_35 rfl rfl ?_
          refine At_getI (pc' := 39) iX11_someSteps_36 rfl f_11_121 (kdK eT (kd_59 hL)) (by decide) ?_
          refine At_bipush (v := nI 8) (pc' := 41) iX11_someSteps_39 rfl (by decide) ?_
          refine At_icmp_ne (t := 53) (pc' := 44) iX11_someSteps_41 (by decide) rfl (fun c41 => ?_) (fun c41 => ?_)
          · have hv := hv.2 c41
            refine At_aload_n (pc' := 54) iX11_someSteps_53 rfl rfl ?_
            refine At_getI (pc' := 57) iX11_someSteps_54 rfl f_11_121 (kdK eT (kd_59 hL)) (by decide) ?_
            refine At_bipush (v := nI 7) (pc' := 59) iX11_someSteps_57 rfl (by decide) ?_
            refine At_icmp_ne (t := 69) (pc' := 62) iX11_someSteps_59 (by decide) rfl (fun c59 => ?_) (fun c59 => ?_)
            · have hv := hv.2 c59
              refine At_aload_n (pc' := 70) iX11_someSteps_69 rfl rfl ?_
              refine At_aload_n (pc' := 71) iX11_someSteps_70 rfl rfl ?_
              refine At_getI (pc' := 74) iX11_someSteps_71 rfl f_11_121 (kdK eT (kd_59 hL)) (by decide) ?_
              refine At_iconst (v := nI 3) (pc' := 75) iX11_someSteps_74 rfl (by decide) ?_
              refine At_icmp_ne (t := 82) (pc' := 78) iX11_someSteps_75 (by decide) rfl (fun c75 => ?_) (fun c75 => ?_)
              · have hv := hv.2 c75
                refine At_iconst (v := nI 1) (pc' := 83) iX11_someSteps_82 rfl (by decide) ?_
                refine At_virt (pc' := 86) iX11_someSteps_83 rfl m_11_172 rfl rfl (kdK eT (kd_59 hL)) (Nat.le_of_ble_eq_true rfl) (Nat.le_of_ble_eq_true rfl) ?_
                refine At.mono (show CallZ (d + 4) MX11_aMove [.ref 59, .int (nI 1)] h _ from hv) ?_
                rintro _ h83 ⟨r83, rfl, eT83, hv⟩
                show At (d + 5) MX11_someSteps 86 [.ref 59, .int x1, .int x2] [.int (b2i r83)] h83 Q
                refine At_istore_n (L' := [.ref 59, .int x1, .int (b2i r83)]) (pc' := 87) iX11_someSteps_86 rfl (Nat.le_of_ble_eq_true rfl) rfl ?_
                refine At_goto (t := 2) iX11_someSteps_87 (by decide) ?_
                exact hv
              · have hv := hv.1 c75
                refine At_iconst (v := nI 0) (pc' := 79) iX11_someSteps_78 rfl (by decide) ?_
                refine At_goto (t := 83) iX11_someSteps_79 (by decide) ?_
                refine At_virt (pc' := 86) iX11_someSteps_83 rfl m_11_172 rfl rfl (kdK eT (kd_59 hL)) (Nat.le_of_ble_eq_true rfl) (Nat.le_of_ble_eq_true rfl) ?_
                refine At.mono (show CallZ (d + 4) MX11_aMove [.ref 59, .int (nI 0)] h _ from hv) ?_
                rintro _ h83 ⟨r83, rfl, eT83, hv⟩
                show At (d + 5) MX11_someSteps 86 [.ref 59, .int x1, .int x2] [.int (b2i r83)] h83 Q
                refine At_istore_n (L' := [.ref 59, .int x1, .int (b2i r83)]) (pc' := 87) iX11_someSteps_86 rfl (Nat.le_of_ble_eq_true rfl) rfl ?_
                refine At_goto (t := 2) iX11_someSteps_87 (by decide) ?_
                exact hv
            · have hv := hv.1 c59
              refine At_aload_n (pc' := 63) iX11_someSteps_62 rfl rfl ?_
              refine At_virt (pc' := 66) iX11_someSteps_63 rfl m_11_168 rfl rfl (kdK eT (kd_59 hL)) (Nat.le_of_ble_eq_true rfl) (Nat.le_of_ble_eq_true rfl) ?_
              refine At.mono (show CallZ (d + 4) MX11_aTurn [.ref 59] h _ from hv) ?_
              rintro _ h63 ⟨r63, rfl, eT63, hv⟩
              show At (d + 5) MX11_someSteps 66 [.ref 59, .int x1, .int x2] [.int (b2i r63)] h63 Q
              refine At_goto (t := 86) iX11_someSteps_66 (by decide) ?_
              refine At_istore_n (L' := [.ref 59, .int x1, .int (b2i r63)]) (pc' := 87) iX11_someSteps_86 rfl (Nat.le_of_ble_eq_true rfl) rfl ?_
              refine At_goto (t := 2) iX11_someSteps_87 (by decide) ?_
              exact hv
          · have hv := hv.1 c41
            refine At_aload_n (pc' := 45) iX11_someSteps_44 rfl rfl ?_
            refine At_iload_n (pc' := 46) iX11_someSteps_45 rfl rfl ?_
            refine At_virt (pc' := 49) iX11_someSteps_46 rfl m_11_165 rfl rfl (kdK eT (kd_59 hL)) (Nat.le_of_ble_eq_true rfl) (Nat.le_of_ble_eq_true rfl) ?_
            refine At.mono (show CallZ (d + 4) MX11_someTimes [.ref 59, .int x1] h _ from hv) ?_
            rintro _ h46 ⟨r46, rfl, eT46, hv⟩
            show At (d + 5) MX11_someSteps 49 [.ref 59, .int x1, .int x2] [.int (b2i r46)] h46 Q
            refine At_istore_n (L' := [.ref 59, .int x1, .int (b2i r46)]) (pc' := 50) iX11_someSteps_49 rfl (Nat.le_of_ble_eq_true rfl) rfl ?_
            refine At_goto (t := 2) iX11_someSteps_50 (by decide) ?_
            exact hv
-- X10_text (calls X5_read)
set_option maxRecDepth 20000 in
theorem b_X10_text {d : Nat} {T : HT} (hL : Lay T) {h : Hp} (eT : h.2.2 = T) (x1 : Int32)  {Q : Option Value → Hp → Prop} (hv : (((r_X10_isSong x1) = true) → (CallZ (d + 5) MX5_read [.ref 2, .int (gI (w_X5_forgetFault h) 12 0)] (w_X5_forgetFault h) (fun r27 h27 => h27.2.2 = T ∧ (((r27 = true) → (∃ k41 : Nat, x1 = nI k41 ∧ k41 < 4 ∧ ((p_X7_copy (20 + 2 * k41) 8 h27) ∧ (∃ k60 : Nat, x1 = nI k60 ∧ k60 < 4 ∧ (Q (some (.int (gI (w_X7_copy (20 + 2 * k41) 8 h27) (20 + 2 * k60) 0))) (sI (w_X7_copy (20 + 2 * k41) 8 h27) 3 0 (nI 0))))))) ∧ (¬ (r27 = true) → (Q (some (.int (-1))) (sI h27 3 0 (nI 0)))))))) ∧ (¬ ((r_X10_isSong x1) = true) → (Q (some (.int (-1))) (sI (w_X5_forgetFault h) 3 0 (nI 0))))) : Call (d + 6) MX10_text [.ref 1, .int x1] h Q := by
  show At (d + 6) MX10_text 0 [.ref 1, .int x1, un] [] h Q
  refine At_aload_n (pc' := 1) iX10_text_0 rfl rfl ?_
  refine At_getR (pc' := 4) iX10_text_1 rfl f_10_10 (kdK eT (kd_1 hL)) (by decide) (rfH eT (rf_1_0 hL)) ?_
  refine At_virt (pc' := 7) iX10_text_4 rfl m_10_103 rfl rfl (kdK eT (kd_2 hL)) (Nat.le_of_ble_eq_true rfl) (Nat.le_of_ble_eq_true rfl) ?_
  refine c_X5_forgetFault (h := h) hL eT    (show At (d + 6) MX10_text 7 [.ref 1, .int x1, un] [] (w_X5_forgetFault h) Q from ?_)
  refine At_iconst (v := (-1)) (pc' := 8) iX10_text_7 rfl (by decide) ?_
  refine At_istore_n (L' := [.ref 1, .int x1, .int (-1)]) (pc' := 9) iX10_text_8 rfl (Nat.le_of_ble_eq_true rfl) rfl ?_
  refine At_iload_n (pc' := 10) iX10_text_9 rfl rfl ?_
  refine At_stat (pc' := 13) iX10_text_10 rfl m_10_106 rfl rfl (Nat.le_of_ble_eq_true rfl) (Nat.le_of_ble_eq_true rfl) (Nat.le_of_ble_eq_true rfl) ?_
  refine c_X10_isSong (h := w_X5_forgetFault h) x1   (show At (d + 6) MX10_text 13 [.ref 1, .int x1, .int (-1)] [.int (b2i (r_X10_isSong x1))] (w_X5_forgetFault h) Q from ?_)
  refine At_zeq (t := 65) (pc' := 16) iX10_text_13 (by decide) rfl (fun c13 => ?_) (fun c13 => ?_)
  · have hv := hv.2 c13
    refine At_aload_n (pc' := 66) iX10_text_65 rfl rfl ?_
    refine At_getR (pc' := 69) iX10_text_66 rfl f_10_10 (kdK ((wT_X5_forgetFault h).trans eT) (kd_1 hL)) (by decide) (rfH ((wT_X5_forgetFault h).trans eT) (rf_1_0 hL)) ?_
    refine At_getR (pc' := 72) iX10_text_69 rfl f_10_91 (kdK ((wT_X5_forgetFault h).trans eT) (kd_2 hL)) (by decide) (rfH ((wT_X5_forgetFault h).trans eT) (rf_2_2 hL)) ?_
    refine At_iconst (v := nI 0) (pc' := 73) iX10_text_72 rfl (by decide) ?_
    refine At_putI (pc' := 76) iX10_text_73 rfl f_10_95 (kdK ((wT_X5_forgetFault h).trans eT) (kd_3 hL)) (Or.inl rfl) (by decide) ?_
    refine At_iload_n (pc' := 77) iX10_text_76 rfl rfl ?_
    exact At_retI iX10_text_77 rfl hv
  · have hv := hv.1 c13
    refine At_aload_n (pc' := 17) iX10_text_16 rfl rfl ?_
    refine At_getR (pc' := 20) iX10_text_17 rfl f_10_10 (kdK ((wT_X5_forgetFault h).trans eT) (kd_1 hL)) (by decide) (rfH ((wT_X5_forgetFault h).trans eT) (rf_1_0 hL)) ?_
    refine At_aload_n (pc' := 21) iX10_text_20 rfl rfl ?_
    refine At_getR (pc' := 24) iX10_text_21 rfl f_10_19 (kdK ((wT_X5_forgetFault h).trans eT) (kd_1 hL)) (by decide) (rfH ((wT_X5_forgetFault h).trans eT) (rf_1_1 hL)) ?_
    refine At_getI (pc' := 27) iX10_text_24 rfl f_10_109 (kdK ((wT_X5_forgetFault h).trans eT) (kd_12 hL)) (by decide) ?_
    refine At_virt (pc' := 30) iX10_text_27 rfl m_10_112 rfl rfl (kdK ((wT_X5_forgetFault h).trans eT) (kd_2 hL)) (Nat.le_of_ble_eq_true rfl) (Nat.le_of_ble_eq_true rfl) ?_
    refine At.mono (show CallZ (d + 5) MX5_read [.ref 2, .int (gI (w_X5_forgetFault h) 12 0)] (w_X5_forgetFault h) _ from hv) ?_
    rintro _ h27 ⟨r27, rfl, eT27, hv⟩
    show At (d + 6) MX10_text 30 [.ref 1, .int x1, .int (-1)] [.int (b2i r27)] h27 Q
    refine At_zeq (t := 65) (pc' := 33) iX10_text_30 (by decide) rfl (fun c30 => ?_) (fun c30 => ?_)
    · have hv := hv.2 c30
      refine At_aload_n (pc' := 66) iX10_text_65 rfl rfl ?_
      refine At_getR (pc' := 69) iX10_text_66 rfl f_10_10 (kdK eT27 (kd_1 hL)) (by decide) (rfH eT27 (rf_1_0 hL)) ?_
      refine At_getR (pc' := 72) iX10_text_69 rfl f_10_91 (kdK eT27 (kd_2 hL)) (by decide) (rfH eT27 (rf_2_2 hL)) ?_
      refine At_iconst (v := nI 0) (pc' := 73) iX10_text_72 rfl (by decide) ?_
      refine At_putI (pc' := 76) iX10_text_73 rfl f_10_95 (kdK eT27 (kd_3 hL)) (Or.inl rfl) (by decide) ?_
      refine At_iload_n (pc' := 77) iX10_text_76 rfl rfl ?_
      exact At_retI iX10_text_77 rfl hv
    · have hv := hv.1 c30
      refine At_aload_n (pc' := 34) iX10_text_33 rfl rfl ?_
      refine At_getR (pc' := 37) iX10_text_34 rfl f_10_19 (kdK eT27 (kd_1 hL)) (by decide) (rfH eT27 (rf_1_1 hL)) ?_
      refine At_getR (pc' := 40) iX10_text_37 rfl f_10_115 (kdK eT27 (kd_12 hL)) (by decide) (rfH eT27 (rf_12_5 hL)) ?_
      refine At_iload_n (pc' := 41) iX10_text_40 rfl rfl ?_
      obtain ⟨k41, e41, hk41, hv⟩ := hv
      refine At_aald (b := (20 + 2 * k41)) (pc' := 42) iX10_text_41 rfl (kdH eT27 (kd_14 hL)) (by decide) (by rw [e41]; exact inB_nI hk41 (by decide)) (by rw [e41, nI_clamp (by omega)]; exact rfH eT27 (rf_song hL hk41)) ?_
      refine At_aload_n (pc' := 43) iX10_text_42 rfl rfl ?_
      refine At_getR (pc' := 46) iX10_text_43 rfl f_10_10 (kdK eT27 (kd_1 hL)) (by decide) (rfH eT27 (rf_1_0 hL)) ?_
      refine At_getR (pc' := 49) iX10_text_46 rfl f_10_119 (kdK eT27 (kd_2 hL)) (by decide) (rfH eT27 (rf_2_3 hL)) ?_
      refine At_virt (pc' := 52) iX10_text_49 rfl m_10_123 rfl rfl (kdK eT27 (X7_k0 (isX7_song hL hk41))) (Nat.le_of_ble_eq_true rfl) (Nat.le_of_ble_eq_true rfl) ?_
      obtain ⟨hn1, hv⟩ := hv
      refine c_X7_copy (h := h27) hL eT27 (20 + 2 * k41) 8 (isX7_song hL hk41) (isX7_8 hL) hn1 (show At (d + 6) MX10_text 52 [.ref 1, .int x1, .int (-1)] [] (w_X7_copy (20 + 2 * k41) 8 h27) Q from ?_)
      refine At_aload_n (pc' := 53) iX10_text_52 rfl rfl ?_
      refine At_getR (pc' := 56) iX10_text_53 rfl f_10_19 (kdK ((wT_X7_copy (20 + 2 * k41) 8 h27).trans eT27) (kd_1 hL)) (by decide) (rfH ((wT_X7_copy (20 + 2 * k41) 8 h27).trans eT27) (rf_1_1 hL)) ?_
      refine At_getR (pc' := 59) iX10_text_56 rfl f_10_115 (kdK ((wT_X7_copy (20 + 2 * k41) 8 h27).trans eT27) (kd_12 hL)) (by decide) (rfH ((wT_X7_copy (20 + 2 * k41) 8 h27).trans eT27) (rf_12_5 hL)) ?_
      refine At_iload_n (pc' := 60) iX10_text_59 rfl rfl ?_
      obtain ⟨k60, e60, hk60, hv⟩ := hv
      refine At_aald (b := (20 + 2 * k60)) (pc' := 61) iX10_text_60 rfl (kdH ((wT_X7_copy (20 + 2 * k41) 8 h27).trans eT27) (kd_14 hL)) (by decide) (by rw [e60]; exact inB_nI hk60 (by decide)) (by rw [e60, nI_clamp (by omega)]; exact rfH ((wT_X7_copy (20 + 2 * k41) 8 h27).trans eT27) (rf_song hL hk60)) ?_
      refine At_getI (pc' := 64) iX10_text_61 rfl f_10_129 (kdK ((wT_X7_copy (20 + 2 * k41) 8 h27).trans eT27) (X7_k0 (isX7_song hL hk60))) (by decide) ?_
      refine At_istore_n (L' := [.ref 1, .int x1, .int (gI (w_X7_copy (20 + 2 * k41) 8 h27) (20 + 2 * k60) 0)]) (pc' := 65) iX10_text_64 rfl (Nat.le_of_ble_eq_true rfl) rfl ?_
      refine At_aload_n (pc' := 66) iX10_text_65 rfl rfl ?_
      refine At_getR (pc' := 69) iX10_text_66 rfl f_10_10 (kdK ((wT_X7_copy (20 + 2 * k41) 8 h27).trans eT27) (kd_1 hL)) (by decide) (rfH ((wT_X7_copy (20 + 2 * k41) 8 h27).trans eT27) (rf_1_0 hL)) ?_
      refine At_getR (pc' := 72) iX10_text_69 rfl f_10_91 (kdK ((wT_X7_copy (20 + 2 * k41) 8 h27).trans eT27) (kd_2 hL)) (by decide) (rfH ((wT_X7_copy (20 + 2 * k41) 8 h27).trans eT27) (rf_2_2 hL)) ?_
      refine At_iconst (v := nI 0) (pc' := 73) iX10_text_72 rfl (by decide) ?_
      refine At_putI (pc' := 76) iX10_text_73 rfl f_10_95 (kdK ((wT_X7_copy (20 + 2 * k41) 8 h27).trans eT27) (kd_3 hL)) (Or.inl rfl) (by decide) ?_
      refine At_iload_n (pc' := 77) iX10_text_76 rfl rfl ?_
      exact At_retI iX10_text_77 rfl hv
-- X11_text (calls X11_next0)
def L_X11_text_66 (d : Nat) (x1 : Int32) (x2 : Int32) (h : Hp) (Q : Option Value → Hp → Prop) : Prop := ∀ v3 : Value, At (d + 6) MX11_text 66 [.ref 59, .int x1, .int x2, v3] [] h Q
def L_X11_text_86 (d : Nat) (x1 : Int32) (x2 : Int32) (h : Hp) (Q : Option Value → Hp → Prop) : Prop := ∀ v3 : Value, At (d + 6) MX11_text 86 [.ref 59, .int x1, .int x2, v3] [] h Q
def L_X11_text_129 (d : Nat) (x1 : Int32) (x3 : Int32) (h : Hp) (Q : Option Value → Hp → Prop) : Prop := ∀ v2 : Value, At (d + 6) MX11_text 129 [.ref 59, .int x1, v2, .int x3] [] h Q
set_option maxRecDepth 20000 in
theorem b_X11_text {d : Nat} {T : HT} (hL : Lay T) {h : Hp} (eT : h.2.2 = T) (x1 : Int32)  {Q : Option Value → Hp → Prop} (hv : (((r_X11_isSong x1) = true) → (CallV (d + 5) MX11_next0 [.ref 59] (sI (sI (sI (sI (sI h 59 15 (nI 0)) 59 16 (-1)) 59 13 (nI 0)) 59 9 (nI 0)) 59 7 (nI 0)) (fun h40 => h40.2.2 = T ∧ (CallZ (d + 5) MX11_someSteps [.ref 59, .int (nI 0)] h40 (fun r45 h45 => h45.2.2 = T ∧ (((r45 = true) → ((((gI h45 59 10) = 0) → (L_X11_text_66 d x1 (b2i r45) h45 Q)) ∧ (¬ ((gI h45 59 10) = 0) → (L_X11_text_66 d x1 (b2i (r_X11_bad (nI 1) h45)) (w_X11_bad (nI 1) h45) Q)))) ∧ (¬ (r45 = true) → (L_X11_text_66 d x1 (b2i r45) h45 Q)))))))) ∧ (¬ ((r_X11_isSong x1) = true) → (Q (some (.int (-1))) (sI (sI (sI (sI (sI (sI h 59 15 (nI 0)) 59 16 (-1)) 59 13 (nI 0)) 59 9 (nI 0)) 59 7 (nI 0)) 59 8 (nI 0))))) : Call (d + 6) MX11_text [.ref 59, .int x1] h Q := by
  show At (d + 6) MX11_text 0 [.ref 59, .int x1, un, un] [] h Q
  refine At_aload_n (pc' := 1) iX11_text_0 rfl rfl ?_
  refine At_iconst (v := nI 0) (pc' := 2) iX11_text_1 rfl (by decide) ?_
  refine At_putI (pc' := 5) iX11_text_2 rfl f_11_175 (kdK eT (kd_59 hL)) (Or.inl rfl) (by decide) ?_
  refine At_aload_n (pc' := 6) iX11_text_5 rfl rfl ?_
  refine At_iconst (v := (-1)) (pc' := 7) iX11_text_6 rfl (by decide) ?_
  refine At_putI (pc' := 10) iX11_text_7 rfl f_11_25 (kdK eT (kd_59 hL)) (Or.inl rfl) (by decide) ?_
  refine At_aload_n (pc' := 11) iX11_text_10 rfl rfl ?_
  refine At_iconst (v := nI 0) (pc' := 12) iX11_text_11 rfl (by decide) ?_
  refine At_putI (pc' := 15) iX11_text_12 rfl f_11_136 (kdK eT (kd_59 hL)) (Or.inl rfl) (by decide) ?_
  refine At_aload_n (pc' := 16) iX11_text_15 rfl rfl ?_
  refine At_iconst (v := nI 0) (pc' := 17) iX11_text_16 rfl (by decide) ?_
  refine At_putI (pc' := 20) iX11_text_17 rfl f_11_85 (kdK eT (kd_59 hL)) (Or.inl rfl) (by decide) ?_
  refine At_aload_n (pc' := 21) iX11_text_20 rfl rfl ?_
  refine At_iconst (v := nI 0) (pc' := 22) iX11_text_21 rfl (by decide) ?_
  refine At_putI (pc' := 25) iX11_text_22 rfl f_11_148 (kdK eT (kd_59 hL)) (Or.inl rfl) (by decide) ?_
  refine At_iload_n (pc' := 26) iX11_text_25 rfl rfl ?_
  refine At_stat (pc' := 29) iX11_text_26 rfl m_11_178 rfl rfl (Nat.le_of_ble_eq_true rfl) (Nat.le_of_ble_eq_true rfl) (Nat.le_of_ble_eq_true rfl) ?_
  refine c_X11_isSong (h := sI (sI (sI (sI (sI h 59 15 (nI 0)) 59 16 (-1)) 59 13 (nI 0)) 59 9 (nI 0)) 59 7 (nI 0)) x1   (show At (d + 6) MX11_text 29 [.ref 59, .int x1, un, un] [.int (b2i (r_X11_isSong x1))] (sI (sI (sI (sI (sI h 59 15 (nI 0)) 59 16 (-1)) 59 13 (nI 0)) 59 9 (nI 0)) 59 7 (nI 0)) Q from ?_)
  refine At_zne (t := 39) (pc' := 32) iX11_text_29 (by decide) rfl (fun c29 => ?_) (fun c29 => ?_)
  · have hv := hv.1 c29
    refine At_aload_n (pc' := 40) iX11_text_39 rfl rfl ?_
    refine At_virt (pc' := 43) iX11_text_40 rfl m_11_145 rfl rfl (kdK eT (kd_59 hL)) (Nat.le_of_ble_eq_true rfl) (Nat.le_of_ble_eq_true rfl) ?_
    refine At.mono (show CallV (d + 5) MX11_next0 [.ref 59] (sI (sI (sI (sI (sI h 59 15 (nI 0)) 59 16 (-1)) 59 13 (nI 0)) 59 9 (nI 0)) 59 7 (nI 0)) _ from hv) ?_
    rintro _ h40 ⟨rfl, eT40, hv⟩
    show At (d + 6) MX11_text 43 [.ref 59, .int x1, un, un] [] h40 Q
    refine At_aload_n (pc' := 44) iX11_text_43 rfl rfl ?_
    refine At_iconst (v := nI 0) (pc' := 45) iX11_text_44 rfl (by decide) ?_
    refine At_virt (pc' := 48) iX11_text_45 rfl m_11_162 rfl rfl (kdK eT40 (kd_59 hL)) (Nat.le_of_ble_eq_true rfl) (Nat.le_of_ble_eq_true rfl) ?_
    refine At.mono (show CallZ (d + 5) MX11_someSteps [.ref 59, .int (nI 0)] h40 _ from hv) ?_
    rintro _ h45 ⟨r45, rfl, eT45, hv⟩
    show At (d + 6) MX11_text 48 [.ref 59, .int x1, un, un] [.int (b2i r45)] h45 Q
    refine At_istore_n (L' := [.ref 59, .int x1, .int (b2i r45), un]) (pc' := 49) iX11_text_48 rfl (Nat.le_of_ble_eq_true rfl) rfl ?_
    refine At_iload_n (pc' := 50) iX11_text_49 rfl rfl ?_
    refine At_zeq (t := 66) (pc' := 53) iX11_text_50 (by decide) rfl (fun c50 => ?_) (fun c50 => ?_)
    · have hv := hv.2 c50
      exact hv _
    · have hv := hv.1 c50
      refine At_aload_n (pc' := 54) iX11_text_53 rfl rfl ?_
      refine At_getI (pc' := 57) iX11_text_54 rfl f_11_121 (kdK eT45 (kd_59 hL)) (by decide) ?_
      refine At_if_eq (t := 66) (pc' := 60) iX11_text_57 (by decide) rfl (fun c57 => ?_) (fun c57 => ?_)
      · have hv := hv.1 c57
        exact hv _
      · have hv := hv.2 c57
        refine At_aload_n (pc' := 61) iX11_text_60 rfl rfl ?_
        refine At_iconst (v := nI 1) (pc' := 62) iX11_text_61 rfl (by decide) ?_
        refine At_virt (pc' := 65) iX11_text_62 rfl m_11_142 rfl rfl (kdK eT45 (kd_59 hL)) (Nat.le_of_ble_eq_true rfl) (Nat.le_of_ble_eq_true rfl) ?_
        refine c_X11_bad (h := h45) hL eT45 (nI 1)   (show At (d + 6) MX11_text 65 [.ref 59, .int x1, .int (b2i r45), un] [.int (b2i (r_X11_bad (nI 1) h45))] (w_X11_bad (nI 1) h45) Q from ?_)
        refine At_istore_n (L' := [.ref 59, .int x1, .int (b2i (r_X11_bad (nI 1) h45)), un]) (pc' := 66) iX11_text_65 rfl (Nat.le_of_ble_eq_true rfl) rfl ?_
        exact hv _
  · have hv := hv.2 c29
    refine At_aload_n (pc' := 33) iX11_text_32 rfl rfl ?_
    refine At_iconst (v := nI 0) (pc' := 34) iX11_text_33 rfl (by decide) ?_
    refine At_putI (pc' := 37) iX11_text_34 rfl f_11_82 (kdK eT (kd_59 hL)) (Or.inl rfl) (by decide) ?_
    refine At_iconst (v := (-1)) (pc' := 38) iX11_text_37 rfl (by decide) ?_
    exact At_retI iX11_text_38 rfl hv
set_option maxRecDepth 20000 in
theorem b_X11_text_66 {d : Nat} {T : HT} (hL : Lay T) {h : Hp} (eT : h.2.2 = T) (x1 : Int32) (x2 : Int32)  {Q : Option Value → Hp → Prop} (hv : ((x2 = 0) → (L_X11_text_86 d x1 x2 h Q)) ∧ (¬ (x2 = 0) → ((((nI 200) < (gI h 59 7)) → (L_X11_text_86 d x1 (b2i (r_X11_bad (nI 4) h)) (w_X11_bad (nI 4) h) Q)) ∧ (¬ ((nI 200) < (gI h 59 7)) → (L_X11_text_86 d x1 x2 h Q))))) : L_X11_text_66 d x1 x2 h Q := by
  intro v3
  refine At_iload_n (pc' := 67) iX11_text_66 rfl rfl ?_
  refine At_if_eq (t := 86) (pc' := 70) iX11_text_67 (by decide) rfl (fun c67 => ?_) (fun c67 => ?_)
  · have hv := hv.1 c67
    exact hv _
  · have hv := hv.2 c67
    refine At_aload_n (pc' := 71) iX11_text_70 rfl rfl ?_
    refine At_getI (pc' := 74) iX11_text_71 rfl f_11_148 (kdK eT (kd_59 hL)) (by decide) ?_
    refine At_sipush (v := nI 200) (pc' := 77) iX11_text_74 rfl (by decide) ?_
    refine At_icmp_le (t := 86) (pc' := 80) iX11_text_77 (by decide) rfl (fun c77 => ?_) (fun c77 => ?_)
    · have hv := hv.2 c77
      exact hv _
    · have hv := hv.1 c77
      refine At_aload_n (pc' := 81) iX11_text_80 rfl rfl ?_
      refine At_iconst (v := nI 4) (pc' := 82) iX11_text_81 rfl (by decide) ?_
      refine At_virt (pc' := 85) iX11_text_82 rfl m_11_142 rfl rfl (kdK eT (kd_59 hL)) (Nat.le_of_ble_eq_true rfl) (Nat.le_of_ble_eq_true rfl) ?_
      refine c_X11_bad (h := h) hL eT (nI 4)   (show At (d + 6) MX11_text 85 [.ref 59, .int x1, .int x2, v3] [.int (b2i (r_X11_bad (nI 4) h))] (w_X11_bad (nI 4) h) Q from ?_)
      refine At_istore_n (L' := [.ref 59, .int x1, .int (b2i (r_X11_bad (nI 4) h)), v3]) (pc' := 86) iX11_text_85 rfl (Nat.le_of_ble_eq_true rfl) rfl ?_
      exact hv _
set_option maxRecDepth 20000 in
theorem b_X11_text_86 {d : Nat} {T : HT} (hL : Lay T) {h : Hp} (eT : h.2.2 = T) (x1 : Int32) (x2 : Int32)  {Q : Option Value → Hp → Prop} (hv : ((x2 = 0) → (Q (some (.int (-1))) (sI (sI (sI h 59 8 (nI 0)) 59 15 (gI (sI h 59 8 (nI 0)) 59 13)) 59 16 (gI (sI (sI h 59 8 (nI 0)) 59 15 (gI (sI h 59 8 (nI 0)) 59 13)) 59 14)))) ∧ (¬ (x2 = 0) → ((inB ((nI 975) + x1) 4180 = true) ∧ (L_X11_text_129 d x1 (nI 0) (sI (sI h 59 8 (nI 0)) 60 (((nI 975) + x1).toNatClampNeg) (gI (sI h 59 8 (nI 0)) 59 7)) Q)))) : L_X11_text_86 d x1 x2 h Q := by
  intro v3
  refine At_aload_n (pc' := 87) iX11_text_86 rfl rfl ?_
  refine At_iconst (v := nI 0) (pc' := 88) iX11_text_87 rfl (by decide) ?_
  refine At_putI (pc' := 91) iX11_text_88 rfl f_11_82 (kdK eT (kd_59 hL)) (Or.inl rfl) (by decide) ?_
  refine At_iload_n (pc' := 92) iX11_text_91 rfl rfl ?_
  refine At_if_ne (t := 113) (pc' := 95) iX11_text_92 (by decide) rfl (fun c92 => ?_) (fun c92 => ?_)
  · have hv := hv.2 c92
    refine At_aload_n (pc' := 114) iX11_text_113 rfl rfl ?_
    refine At_getR (pc' := 117) iX11_text_114 rfl f_11_7 (kdK eT (kd_59 hL)) (by decide) (rfH eT (rf_59_0 hL)) ?_
    refine At_sipush (v := nI 975) (pc' := 120) iX11_text_117 rfl (by decide) ?_
    refine At_iload_n (pc' := 121) iX11_text_120 rfl rfl ?_
    refine At_iadd (pc' := 122) iX11_text_121 rfl ?_
    refine At_aload_n (pc' := 123) iX11_text_122 rfl rfl ?_
    refine At_getI (pc' := 126) iX11_text_123 rfl f_11_148 (kdK eT (kd_59 hL)) (by decide) ?_
    obtain ⟨hn1, hv⟩ := hv
    refine At_iast (pc' := 127) iX11_text_126 rfl (kdH eT (kd_60 hL)) hn1 (show At (d + 6) MX11_text 127 [.ref 59, .int x1, .int x2, v3] [] (sI (sI h 59 8 (nI 0)) 60 (((nI 975) + x1).toNatClampNeg) (gI (sI h 59 8 (nI 0)) 59 7)) Q from ?_)
    refine At_iconst (v := nI 0) (pc' := 128) iX11_text_127 rfl (by decide) ?_
    refine At_istore_n (L' := [.ref 59, .int x1, .int x2, .int (nI 0)]) (pc' := 129) iX11_text_128 rfl (Nat.le_of_ble_eq_true rfl) rfl ?_
    exact hv _
  · have hv := hv.1 c92
    refine At_aload_n (pc' := 96) iX11_text_95 rfl rfl ?_
    refine At_aload_n (pc' := 97) iX11_text_96 rfl rfl ?_
    refine At_getI (pc' := 100) iX11_text_97 rfl f_11_136 (kdK eT (kd_59 hL)) (by decide) ?_
    refine At_putI (pc' := 103) iX11_text_100 rfl f_11_175 (kdK eT (kd_59 hL)) (Or.inl rfl) (by decide) ?_
    refine At_aload_n (pc' := 104) iX11_text_103 rfl rfl ?_
    refine At_aload_n (pc' := 105) iX11_text_104 rfl rfl ?_
    refine At_getI (pc' := 108) iX11_text_105 rfl f_11_139 (kdK eT (kd_59 hL)) (by decide) ?_
    refine At_putI (pc' := 111) iX11_text_108 rfl f_11_25 (kdK eT (kd_59 hL)) (Or.inl rfl) (by decide) ?_
    refine At_iconst (v := (-1)) (pc' := 112) iX11_text_111 rfl (by decide) ?_
    exact At_retI iX11_text_112 rfl hv
set_option maxRecDepth 20000 in
theorem b_X11_text_129 {d : Nat} {T : HT} (hL : Lay T) {h : Hp} (eT : h.2.2 = T) (x1 : Int32) (x3 : Int32)  {Q : Option Value → Hp → Prop} (hv : ((x3 < ((nI 4) * (gI h 59 7))) → ((inB x3 800 = true) ∧ ((inB (((nI 980) + ((nI 800) * x1)) + x3) 4180 = true) ∧ (L_X11_text_129 d x1 (x3 + nI 1) (sI h 60 ((((nI 980) + ((nI 800) * x1)) + x3).toNatClampNeg) (gI h 63 x3.toNatClampNeg)) Q)))) ∧ (¬ (x3 < ((nI 4) * (gI h 59 7))) → (Q (some (.int (gI h 59 7))) h))) : L_X11_text_129 d x1 x3 h Q := by
  intro v2
  refine At_iload_n (pc' := 130) iX11_text_129 rfl rfl ?_
  refine At_iconst (v := nI 4) (pc' := 131) iX11_text_130 rfl (by decide) ?_
  refine At_aload_n (pc' := 132) iX11_text_131 rfl rfl ?_
  refine At_getI (pc' := 135) iX11_text_132 rfl f_11_148 (kdK eT (kd_59 hL)) (by decide) ?_
  refine At_imul (pc' := 136) iX11_text_135 rfl ?_
  refine At_icmp_ge (t := 167) (pc' := 139) iX11_text_136 (by decide) rfl (fun c136 => ?_) (fun c136 => ?_)
  · have hv := hv.2 c136
    refine At_aload_n (pc' := 168) iX11_text_167 rfl rfl ?_
    refine At_getI (pc' := 171) iX11_text_168 rfl f_11_148 (kdK eT (kd_59 hL)) (by decide) ?_
    exact At_retI iX11_text_171 rfl hv
  · have hv := hv.1 c136
    refine At_aload_n (pc' := 140) iX11_text_139 rfl rfl ?_
    refine At_getR (pc' := 143) iX11_text_140 rfl f_11_7 (kdK eT (kd_59 hL)) (by decide) (rfH eT (rf_59_0 hL)) ?_
    refine At_sipush (v := nI 980) (pc' := 146) iX11_text_143 rfl (by decide) ?_
    refine At_sipush (v := nI 800) (pc' := 149) iX11_text_146 rfl (by decide) ?_
    refine At_iload_n (pc' := 150) iX11_text_149 rfl rfl ?_
    refine At_imul (pc' := 151) iX11_text_150 rfl ?_
    refine At_iadd (pc' := 152) iX11_text_151 rfl ?_
    refine At_iload_n (pc' := 153) iX11_text_152 rfl rfl ?_
    refine At_iadd (pc' := 154) iX11_text_153 rfl ?_
    refine At_aload_n (pc' := 155) iX11_text_154 rfl rfl ?_
    refine At_getR (pc' := 158) iX11_text_155 rfl f_11_19 (kdK eT (kd_59 hL)) (by decide) (rfH eT (rf_59_5 hL)) ?_
    refine At_iload_n (pc' := 159) iX11_text_158 rfl rfl ?_
    obtain ⟨hn1, hv⟩ := hv
    refine At_iald (pc' := 160) iX11_text_159 rfl (kdH eT (kd_63 hL)) hn1 (show At (d + 6) MX11_text 160 [.ref 59, .int x1, v2, .int x3] [.int (gI h 63 x3.toNatClampNeg), .int (((nI 980) + ((nI 800) * x1)) + x3), .ref 60] h Q from ?_)
    obtain ⟨hn2, hv⟩ := hv
    refine At_iast (pc' := 161) iX11_text_160 rfl (kdH eT (kd_60 hL)) hn2 (show At (d + 6) MX11_text 161 [.ref 59, .int x1, v2, .int x3] [] (sI h 60 ((((nI 980) + ((nI 800) * x1)) + x3).toNatClampNeg) (gI h 63 x3.toNatClampNeg)) Q from ?_)
    refine At_iinc (v := nI 1) (L' := [.ref 59, .int x1, (if 0 = 0 ∧ v2.category = 2 then un else v2), .int (x3 + nI 1)]) (pc' := 164) iX11_text_161 rfl rfl (Nat.le_of_ble_eq_true rfl) (by decide) rfl ?_
    refine At_goto (t := 129) iX11_text_164 (by decide) ?_
    exact hv _
