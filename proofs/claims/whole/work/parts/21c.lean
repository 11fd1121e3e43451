-- blocks between loop heads; written out by gen20.py
-- X9_kindOfWord (calls X9_isWord)
set_option maxRecDepth 20000 in
theorem b_X9_kindOfWord {d : Nat} {T : HT} (hL : Lay T) {h : Hp} (eT : h.2.2 = T) (x1 : Int32) (x2 : Int32)  {Q : Option Value → Hp → Prop} (hv : CallZ (d + 0) MX9_isWord [.ref 3, .ref (1000000 + 0), .int x1, .int x2] h (fun r5 h5 => h5.2.2 = T ∧ (((r5 = true) → (Q (some (.int (nI 6))) h5)) ∧ (¬ (r5 = true) → (CallZ (d + 0) MX9_isWord [.ref 3, .ref (1000000 + 1), .int x1, .int x2] h5 (fun r19 h19 => h19.2.2 = T ∧ (((r19 = true) → (Q (some (.int (nI 7))) h19)) ∧ (¬ (r19 = true) → (CallZ (d + 0) MX9_isWord [.ref 3, .ref (1000000 + 2), .int x1, .int x2] h19 (fun r33 h33 => h33.2.2 = T ∧ (((r33 = true) → (Q (some (.int (nI 8))) h33)) ∧ (¬ (r33 = true) → (CallZ (d + 0) MX9_isWord [.ref 3, .ref (1000000 + 3), .int x1, .int x2] h33 (fun r47 h47 => h47.2.2 = T ∧ (((r47 = true) → (Q (some (.int (nI 9))) h47)) ∧ (¬ (r47 = true) → (CallZ (d + 0) MX9_isWord [.ref 3, .ref (1000000 + 4), .int x1, .int x2] h47 (fun r61 h61 => h61.2.2 = T ∧ (((r61 = true) → (Q (some (.int (nI 10))) h61)) ∧ (¬ (r61 = true) → (CallZ (d + 0) MX9_isWord [.ref 3, .ref (1000000 + 5), .int x1, .int x2] h61 (fun r75 h75 => h75.2.2 = T ∧ (((r75 = true) → (Q (some (.int (nI 11))) h75)) ∧ (¬ (r75 = true) → (Q (some (.int (nI 1))) h75))))))))))))))))))))))))) : Call (d + 1) MX9_kindOfWord [.ref 3, .int x1, .int x2] h Q := by
  show At (d + 1) MX9_kindOfWord 0 [.ref 3, .int x1, .int x2] [] h Q
  refine At_aload_n (pc' := 1) iX9_kindOfWord_0 rfl rfl ?_
  refine At_ldcS (v := 0) (pc' := 3) iX9_kindOfWord_1 rfl rfl rfl ?_
  refine At_iload_n (pc' := 4) iX9_kindOfWord_3 rfl rfl ?_
  refine At_iload_n (pc' := 5) iX9_kindOfWord_4 rfl rfl ?_
  refine At_virt (pc' := 8) iX9_kindOfWord_5 rfl m_9_62 rfl rfl (kdK eT (kd_3 hL)) (Nat.le_of_ble_eq_true rfl) (Nat.le_of_ble_eq_true rfl) ?_
  refine At.mono (show CallZ (d + 0) MX9_isWord [.ref 3, .ref (1000000 + 0), .int x1, .int x2] h _ from hv) ?_
  rintro _ h5 ⟨r5, rfl, eT5, hv⟩
  show At (d + 1) MX9_kindOfWord 8 [.ref 3, .int x1, .int x2] [.int (b2i r5)] h5 Q
  refine At_zeq (t := 14) (pc' := 11) iX9_kindOfWord_8 (by decide) rfl (fun c8 => ?_) (fun c8 => ?_)
  · have hv := hv.2 c8
    refine At_aload_n (pc' := 15) iX9_kindOfWord_14 rfl rfl ?_
    refine At_ldcS (v := 1) (pc' := 17) iX9_kindOfWord_15 rfl rfl rfl ?_
    refine At_iload_n (pc' := 18) iX9_kindOfWord_17 rfl rfl ?_
    refine At_iload_n (pc' := 19) iX9_kindOfWord_18 rfl rfl ?_
    refine At_virt (pc' := 22) iX9_kindOfWord_19 rfl m_9_62 rfl rfl (kdK eT5 (kd_3 hL)) (Nat.le_of_ble_eq_true rfl) (Nat.le_of_ble_eq_true rfl) ?_
    refine At.mono (show CallZ (d + 0) MX9_isWord [.ref 3, .ref (1000000 + 1), .int x1, .int x2] h5 _ from hv) ?_
    rintro _ h19 ⟨r19, rfl, eT19, hv⟩
    show At (d + 1) MX9_kindOfWord 22 [.ref 3, .int x1, .int x2] [.int (b2i r19)] h19 Q
    refine At_zeq (t := 28) (pc' := 25) iX9_kindOfWord_22 (by decide) rfl (fun c22 => ?_) (fun c22 => ?_)
    · have hv := hv.2 c22
      refine At_aload_n (pc' := 29) iX9_kindOfWord_28 rfl rfl ?_
      refine At_ldcS (v := 2) (pc' := 31) iX9_kindOfWord_29 rfl rfl rfl ?_
      refine At_iload_n (pc' := 32) iX9_kindOfWord_31 rfl rfl ?_
      refine At_iload_n (pc' := 33) iX9_kindOfWord_32 rfl rfl ?_
      refine At_virt (pc' := 36) iX9_kindOfWord_33 rfl m_9_62 rfl rfl (kdK eT19 (kd_3 hL)) (Nat.le_of_ble_eq_true rfl) (Nat.le_of_ble_eq_true rfl) ?_
      refine At.mono (show CallZ (d + 0) MX9_isWord [.ref 3, .ref (1000000 + 2), .int x1, .int x2] h19 _ from hv) ?_
      rintro _ h33 ⟨r33, rfl, eT33, hv⟩
      show At (d + 1) MX9_kindOfWord 36 [.ref 3, .int x1, .int x2] [.int (b2i r33)] h33 Q
      refine At_zeq (t := 42) (pc' := 39) iX9_kindOfWord_36 (by decide) rfl (fun c36 => ?_) (fun c36 => ?_)
      · have hv := hv.2 c36
        refine At_aload_n (pc' := 43) iX9_kindOfWord_42 rfl rfl ?_
        refine At_ldcS (v := 3) (pc' := 45) iX9_kindOfWord_43 rfl rfl rfl ?_
        refine At_iload_n (pc' := 46) iX9_kindOfWord_45 rfl rfl ?_
        refine At_iload_n (pc' := 47) iX9_kindOfWord_46 rfl rfl ?_
        refine At_virt (pc' := 50) iX9_kindOfWord_47 rfl m_9_62 rfl rfl (kdK eT33 (kd_3 hL)) (Nat.le_of_ble_eq_true rfl) (Nat.le_of_ble_eq_true rfl) ?_
        refine At.mono (show CallZ (d + 0) MX9_isWord [.ref 3, .ref (1000000 + 3), .int x1, .int x2] h33 _ from hv) ?_
        rintro _ h47 ⟨r47, rfl, eT47, hv⟩
        show At (d + 1) MX9_kindOfWord 50 [.ref 3, .int x1, .int x2] [.int (b2i r47)] h47 Q
        refine At_zeq (t := 56) (pc' := 53) iX9_kindOfWord_50 (by decide) rfl (fun c50 => ?_) (fun c50 => ?_)
        · have hv := hv.2 c50
          refine At_aload_n (pc' := 57) iX9_kindOfWord_56 rfl rfl ?_
          refine At_ldcS (v := 4) (pc' := 59) iX9_kindOfWord_57 rfl rfl rfl ?_
          refine At_iload_n (pc' := 60) iX9_kindOfWord_59 rfl rfl ?_
          refine At_iload_n (pc' := 61) iX9_kindOfWord_60 rfl rfl ?_
          refine At_virt (pc' := 64) iX9_kindOfWord_61 rfl m_9_62 rfl rfl (kdK eT47 (kd_3 hL)) (Nat.le_of_ble_eq_true rfl) (Nat.le_of_ble_eq_true rfl) ?_
          refine At.mono (show CallZ (d + 0) MX9_isWord [.ref 3, .ref (1000000 + 4), .int x1, .int x2] h47 _ from hv) ?_
          rintro _ h61 ⟨r61, rfl, eT61, hv⟩
          show At (d + 1) MX9_kindOfWord 64 [.ref 3, .int x1, .int x2] [.int (b2i r61)] h61 Q
          refine At_zeq (t := 70) (pc' := 67) iX9_kindOfWord_64 (by decide) rfl (fun c64 => ?_) (fun c64 => ?_)
          · have hv := hv.2 c64
            refine At_aload_n (pc' := 71) iX9_kindOfWord_70 rfl rfl ?_
            refine At_ldcS (v := 5) (pc' := 73) iX9_kindOfWord_71 rfl rfl rfl ?_
            refine At_iload_n (pc' := 74) iX9_kindOfWord_73 rfl rfl ?_
            refine At_iload_n (pc' := 75) iX9_kindOfWord_74 rfl rfl ?_
            refine At_virt (pc' := 78) iX9_kindOfWord_75 rfl m_9_62 rfl rfl (kdK eT61 (kd_3 hL)) (Nat.le_of_ble_eq_true rfl) (Nat.le_of_ble_eq_true rfl) ?_
            refine At.mono (show CallZ (d + 0) MX9_isWord [.ref 3, .ref (1000000 + 5), .int x1, .int x2] h61 _ from hv) ?_
            rintro _ h75 ⟨r75, rfl, eT75, hv⟩
            show At (d + 1) MX9_kindOfWord 78 [.ref 3, .int x1, .int x2] [.int (b2i r75)] h75 Q
            refine At_zeq (t := 86) (pc' := 81) iX9_kindOfWord_78 (by decide) rfl (fun c78 => ?_) (fun c78 => ?_)
            · have hv := hv.2 c78
              refine At_iconst (v := nI 1) (pc' := 87) iX9_kindOfWord_86 rfl (by decide) ?_
              exact At_retI iX9_kindOfWord_87 rfl hv
            · have hv := hv.1 c78
              refine At_bipush (v := nI 11) (pc' := 83) iX9_kindOfWord_81 rfl (by decide) ?_
              refine At_goto (t := 87) iX9_kindOfWord_83 (by decide) ?_
              exact At_retI iX9_kindOfWord_87 rfl hv
          · have hv := hv.1 c64
            refine At_bipush (v := nI 10) (pc' := 69) iX9_kindOfWord_67 rfl (by decide) ?_
            exact At_retI iX9_kindOfWord_69 rfl hv
        · have hv := hv.1 c50
          refine At_bipush (v := nI 9) (pc' := 55) iX9_kindOfWord_53 rfl (by decide) ?_
          exact At_retI iX9_kindOfWord_55 rfl hv
      · have hv := hv.1 c36
        refine At_bipush (v := nI 8) (pc' := 41) iX9_kindOfWord_39 rfl (by decide) ?_
        exact At_retI iX9_kindOfWord_41 rfl hv
    · have hv := hv.1 c22
      refine At_bipush (v := nI 7) (pc' := 27) iX9_kindOfWord_25 rfl (by decide) ?_
      exact At_retI iX9_kindOfWord_27 rfl hv
  · have hv := hv.1 c8
    refine At_bipush (v := nI 6) (pc' := 13) iX9_kindOfWord_11 rfl (by decide) ?_
    exact At_retI iX9_kindOfWord_13 rfl hv
-- X9_numberOfRun (loop)
def L_X9_numberOfRun_5 (d : Nat) (x1 : Int32) (x2 : Int32) (x3 : Int32) (x4 : Int32) (h : Hp) (Q : Option Value → Hp → Prop) : Prop := At (d + 1) MX9_numberOfRun 5 [.ref 3, .int x1, .int x2, .int x3, .int x4] [] h Q
set_option maxRecDepth 20000 in
theorem b_X9_numberOfRun {d : Nat} {T : HT} (hL : Lay T) {h : Hp} (eT : h.2.2 = T) (x1 : Int32) (x2 : Int32)  {Q : Option Value → Hp → Prop} (hv : L_X9_numberOfRun_5 d x1 x2 (nI 0) x1 h Q) : Call (d + 1) MX9_numberOfRun [.ref 3, .int x1, .int x2] h Q := by
  show At (d + 1) MX9_numberOfRun 0 [.ref 3, .int x1, .int x2, un, un] [] h Q
  refine At_iconst (v := nI 0) (pc' := 1) iX9_numberOfRun_0 rfl (by decide) ?_
  refine At_istore_n (L' := [.ref 3, .int x1, .int x2, .int (nI 0), un]) (pc' := 2) iX9_numberOfRun_1 rfl (Nat.le_of_ble_eq_true rfl) rfl ?_
  refine At_iload_n (pc' := 3) iX9_numberOfRun_2 rfl rfl ?_
  refine At_istore (L' := [.ref 3, .int x1, .int x2, .int (nI 0), .int x1]) (pc' := 5) iX9_numberOfRun_3 rfl (Nat.le_of_ble_eq_true rfl) rfl ?_
  exact hv
set_option maxRecDepth 20000 in
theorem b_X9_numberOfRun_5 {d : Nat} {T : HT} (hL : Lay T) {h : Hp} (eT : h.2.2 = T) (x1 : Int32) (x2 : Int32) (x3 : Int32) (x4 : Int32)  {Q : Option Value → Hp → Prop} (hv : ((x4 < x2) → ((inB x4 400 = true) ∧ ((((r_X9_isDigit (gI h 7 x4.toNatClampNeg)) = true) → ((((x4 - x1) < (nI 4)) → ((inB x4 400 = true) ∧ (L_X9_numberOfRun_5 d x1 x2 (((x3 * (nI 10)) + (gI h 7 x4.toNatClampNeg)) - (nI 48)) (x4 + nI 1) h Q))) ∧ (¬ ((x4 - x1) < (nI 4)) → (Q (some (.int x3)) h)))) ∧ (¬ ((r_X9_isDigit (gI h 7 x4.toNatClampNeg)) = true) → (Q (some (.int x3)) h))))) ∧ (¬ (x4 < x2) → (Q (some (.int x3)) h))) : L_X9_numberOfRun_5 d x1 x2 x3 x4 h Q := by
  refine At_iload (pc' := 7) iX9_numberOfRun_5 rfl rfl ?_
  refine At_iload_n (pc' := 8) iX9_numberOfRun_7 rfl rfl ?_
  refine At_icmp_ge (t := 54) (pc' := 11) iX9_numberOfRun_8 (by decide) rfl (fun c8 => ?_) (fun c8 => ?_)
  · have hv := hv.2 c8
    refine At_iload_n (pc' := 55) iX9_numberOfRun_54 rfl rfl ?_
    exact At_retI iX9_numberOfRun_55 rfl hv
  · have hv := hv.1 c8
    refine At_aload_n (pc' := 12) iX9_numberOfRun_11 rfl rfl ?_
    refine At_getR (pc' := 15) iX9_numberOfRun_12 rfl f_9_28 (kdK eT (kd_3 hL)) (by decide) (rfH eT (rf_3_5 hL)) ?_
    refine At_iload (pc' := 17) iX9_numberOfRun_15 rfl rfl ?_
    obtain ⟨hn1, hv⟩ := hv
    refine At_bald (pc' := 18) iX9_numberOfRun_17 rfl (kdH eT (kd_7 hL)) hn1 (show At (d + 1) MX9_numberOfRun 18 [.ref 3, .int x1, .int x2, .int x3, .int x4] [.int (gI h 7 x4.toNatClampNeg)] h Q from ?_)
    refine At_stat (pc' := 21) iX9_numberOfRun_18 rfl m_9_54 rfl rfl (Nat.le_of_ble_eq_true rfl) (Nat.le_of_ble_eq_true rfl) (Nat.le_of_ble_eq_true rfl) ?_
    refine c_X9_isDigit (h := h) (gI h 7 x4.toNatClampNeg)   (show At (d + 1) MX9_numberOfRun 21 [.ref 3, .int x1, .int x2, .int x3, .int x4] [.int (b2i (r_X9_isDigit (gI h 7 x4.toNatClampNeg)))] h Q from ?_)
    refine At_zeq (t := 54) (pc' := 24) iX9_numberOfRun_21 (by decide) rfl (fun c21 => ?_) (fun c21 => ?_)
    · have hv := hv.2 c21
      refine At_iload_n (pc' := 55) iX9_numberOfRun_54 rfl rfl ?_
      exact At_retI iX9_numberOfRun_55 rfl hv
    · have hv := hv.1 c21
      refine At_iload (pc' := 26) iX9_numberOfRun_24 rfl rfl ?_
      refine At_iload_n (pc' := 27) iX9_numberOfRun_26 rfl rfl ?_
      refine At_isub (pc' := 28) iX9_numberOfRun_27 rfl ?_
      refine At_iconst (v := nI 4) (pc' := 29) iX9_numberOfRun_28 rfl (by decide) ?_
      refine At_icmp_ge (t := 54) (pc' := 32) iX9_numberOfRun_29 (by decide) rfl (fun c29 => ?_) (fun c29 => ?_)
      · have hv := hv.2 c29
        refine At_iload_n (pc' := 55) iX9_numberOfRun_54 rfl rfl ?_
        exact At_retI iX9_numberOfRun_55 rfl hv
      · have hv := hv.1 c29
        refine At_iload_n (pc' := 33) iX9_numberOfRun_32 rfl rfl ?_
        refine At_bipush (v := nI 10) (pc' := 35) iX9_numberOfRun_33 rfl (by decide) ?_
        refine At_imul (pc' := 36) iX9_numberOfRun_35 rfl ?_
        refine At_aload_n (pc' := 37) iX9_numberOfRun_36 rfl rfl ?_
        refine At_getR (pc' := 40) iX9_numberOfRun_37 rfl f_9_28 (kdK eT (kd_3 hL)) (by decide) (rfH eT (rf_3_5 hL)) ?_
        refine At_iload (pc' := 42) iX9_numberOfRun_40 rfl rfl ?_
        obtain ⟨hn2, hv⟩ := hv
        refine At_bald (pc' := 43) iX9_numberOfRun_42 rfl (kdH eT (kd_7 hL)) hn2 (show At (d + 1) MX9_numberOfRun 43 [.ref 3, .int x1, .int x2, .int x3, .int x4] [.int (gI h 7 x4.toNatClampNeg), .int (x3 * (nI 10))] h Q from ?_)
        refine At_iadd (pc' := 44) iX9_numberOfRun_43 rfl ?_
        refine At_bipush (v := nI 48) (pc' := 46) iX9_numberOfRun_44 rfl (by decide) ?_
        refine At_isub (pc' := 47) iX9_numberOfRun_46 rfl ?_
        refine At_istore_n (L' := [.ref 3, .int x1, .int x2, .int (((x3 * (nI 10)) + (gI h 7 x4.toNatClampNeg)) - (nI 48)), .int x4]) (pc' := 48) iX9_numberOfRun_47 rfl (Nat.le_of_ble_eq_true rfl) rfl ?_
        refine At_iinc (v := nI 1) (L' := [.ref 3, .int x1, .int x2, .int (((x3 * (nI 10)) + (gI h 7 x4.toNatClampNeg)) - (nI 48)), .int (x4 + nI 1)]) (pc' := 51) iX9_numberOfRun_48 rfl rfl (Nat.le_of_ble_eq_true rfl) (by decide) rfl ?_
        refine At_goto (t := 5) iX9_numberOfRun_51 (by decide) ?_
        exact hv
-- X10_feed (calls X9_add)
set_option maxRecDepth 20000 in
theorem b_X10_feed {d : Nat} {T : HT} (hL : Lay T) {h : Hp} (eT : h.2.2 = T) (x1 : Int32) (x2 : Int32) (x3 : Int32) (x4 : Int32) (x5 : Int32)  {Q : Option Value → Hp → Prop} (hv : (((nI 380) < (gI h 3 0)) → (Q (some (.int (-1))) h)) ∧ (¬ ((nI 380) < (gI h 3 0)) → (CallV (d + 0) MX9_add [.ref 3, .int x1] h (fun h25 => h25.2.2 = T ∧ (CallV (d + 0) MX9_add [.ref 3, .int x2] h25 (fun h31 => h31.2.2 = T ∧ (CallV (d + 0) MX9_add [.ref 3, .int x3] h31 (fun h37 => h37.2.2 = T ∧ (CallV (d + 0) MX9_add [.ref 3, .int x4] h37 (fun h44 => h44.2.2 = T ∧ (CallV (d + 0) MX9_add [.ref 3, .int x5] h44 (fun h51 => h51.2.2 = T ∧ (Q (some (.int (gI h51 3 0))) h51))))))))))))) : Call (d + 1) MX10_feed [.ref 1, .int x1, .int x2, .int x3, .int x4, .int x5] h Q := by
  show At (d + 1) MX10_feed 0 [.ref 1, .int x1, .int x2, .int x3, .int x4, .int x5, un] [] h Q
  refine At_aload_n (pc' := 1) iX10_feed_0 rfl rfl ?_
  refine At_getR (pc' := 4) iX10_feed_1 rfl f_10_10 (kdK eT (kd_1 hL)) (by decide) (rfH eT (rf_1_0 hL)) ?_
  refine At_getR (pc' := 7) iX10_feed_4 rfl f_10_91 (kdK eT (kd_2 hL)) (by decide) (rfH eT (rf_2_2 hL)) ?_
  refine At_astore (L' := [.ref 1, .int x1, .int x2, .int x3, .int x4, .int x5, .ref 3]) (pc' := 9) iX10_feed_7 rfl (Nat.le_of_ble_eq_true rfl) rfl ?_
  refine At_aload (pc' := 11) iX10_feed_9 rfl rfl ?_
  refine At_getI (pc' := 14) iX10_feed_11 rfl f_10_95 (kdK eT (kd_3 hL)) (by decide) ?_
  refine At_sipush (v := nI 380) (pc' := 17) iX10_feed_14 rfl (by decide) ?_
  refine At_icmp_le (t := 22) (pc' := 20) iX10_feed_17 (by decide) rfl (fun c17 => ?_) (fun c17 => ?_)
  · have hv := hv.2 c17
    refine At_aload (pc' := 24) iX10_feed_22 rfl rfl ?_
    refine At_iload_n (pc' := 25) iX10_feed_24 rfl rfl ?_
    refine At_virt (pc' := 28) iX10_feed_25 rfl m_10_100 rfl rfl (kdK eT (kd_3 hL)) (Nat.le_of_ble_eq_true rfl) (Nat.le_of_ble_eq_true rfl) ?_
    refine At.mono (show CallV (d + 0) MX9_add [.ref 3, .int x1] h _ from hv) ?_
    rintro _ h25 ⟨rfl, eT25, hv⟩
    show At (d + 1) MX10_feed 28 [.ref 1, .int x1, .int x2, .int x3, .int x4, .int x5, .ref 3] [] h25 Q
    refine At_aload (pc' := 30) iX10_feed_28 rfl rfl ?_
    refine At_iload_n (pc' := 31) iX10_feed_30 rfl rfl ?_
    refine At_virt (pc' := 34) iX10_feed_31 rfl m_10_100 rfl rfl (kdK eT25 (kd_3 hL)) (Nat.le_of_ble_eq_true rfl) (Nat.le_of_ble_eq_true rfl) ?_
    refine At.mono (show CallV (d + 0) MX9_add [.ref 3, .int x2] h25 _ from hv) ?_
    rintro _ h31 ⟨rfl, eT31, hv⟩
    show At (d + 1) MX10_feed 34 [.ref 1, .int x1, .int x2, .int x3, .int x4, .int x5, .ref 3] [] h31 Q
    refine At_aload (pc' := 36) iX10_feed_34 rfl rfl ?_
    refine At_iload_n (pc' := 37) iX10_feed_36 rfl rfl ?_
    refine At_virt (pc' := 40) iX10_feed_37 rfl m_10_100 rfl rfl (kdK eT31 (kd_3 hL)) (Nat.le_of_ble_eq_true rfl) (Nat.le_of_ble_eq_true rfl) ?_
    refine At.mono (show CallV (d + 0) MX9_add [.ref 3, .int x3] h31 _ from hv) ?_
    rintro _ h37 ⟨rfl, eT37, hv⟩
    show At (d + 1) MX10_feed 40 [.ref 1, .int x1, .int x2, .int x3, .int x4, .int x5, .ref 3] [] h37 Q
    refine At_aload (pc' := 42) iX10_feed_40 rfl rfl ?_
    refine At_iload (pc' := 44) iX10_feed_42 rfl rfl ?_
    refine At_virt (pc' := 47) iX10_feed_44 rfl m_10_100 rfl rfl (kdK eT37 (kd_3 hL)) (Nat.le_of_ble_eq_true rfl) (Nat.le_of_ble_eq_true rfl) ?_
    refine At.mono (show CallV (d + 0) MX9_add [.ref 3, .int x4] h37 _ from hv) ?_
    rintro _ h44 ⟨rfl, eT44, hv⟩
    show At (d + 1) MX10_feed 47 [.ref 1, .int x1, .int x2, .int x3, .int x4, .int x5, .ref 3] [] h44 Q
    refine At_aload (pc' := 49) iX10_feed_47 rfl rfl ?_
    refine At_iload (pc' := 51) iX10_feed_49 rfl rfl ?_
    refine At_virt (pc' := 54) iX10_feed_51 rfl m_10_100 rfl rfl (kdK eT44 (kd_3 hL)) (Nat.le_of_ble_eq_true rfl) (Nat.le_of_ble_eq_true rfl) ?_
    refine At.mono (show CallV (d + 0) MX9_add [.ref 3, .int x5] h44 _ from hv) ?_
    rintro _ h51 ⟨rfl, eT51, hv⟩
    show At (d + 1) MX10_feed 54 [.ref 1, .int x1, .int x2, .int x3, .int x4, .int x5, .ref 3] [] h51 Q
    refine At_aload (pc' := 56) iX10_feed_54 rfl rfl ?_
    refine At_getI (pc' := 59) iX10_feed_56 rfl f_10_95 (kdK eT51 (kd_3 hL)) (by decide) ?_
    exact At_retI iX10_feed_59 rfl hv
  · have hv := hv.1 c17
    refine At_iconst (v := (-1)) (pc' := 21) iX10_feed_20 rfl (by decide) ?_
    exact At_retI iX10_feed_21 rfl hv
-- X10_look (sw)
def L_X10_look_28 (d : Nat) (x1 : Int32) (h : Hp) (Q : Option Value → Hp → Prop) : Prop := At (d + 1) MX10_look 28 [.ref 1, .int x1] [] h Q
def L_X10_look_63 (d : Nat) (x1 : Int32) (h : Hp) (Q : Option Value → Hp → Prop) : Prop := At (d + 1) MX10_look 63 [.ref 1, .int x1] [] h Q
def L_X10_look_88 (d : Nat) (x1 : Int32) (h : Hp) (Q : Option Value → Hp → Prop) : Prop := At (d + 1) MX10_look 88 [.ref 1, .int x1] [] h Q
set_option maxRecDepth 20000 in
theorem b_X10_look {d : Nat} {T : HT} (hL : Lay T) {h : Hp} (eT : h.2.2 = T) (x1 : Int32)  {Q : Option Value → Hp → Prop} (hv : ((x1 < (nI 10)) → (L_X10_look_28 d x1 h Q)) ∧ (¬ (x1 < (nI 10)) → (((x1 < (nI 14)) → (∃ k23 : Nat, (x1 - (nI 10)) = nI k23 ∧ k23 < 4 ∧ (Q (some (.int (gI h (20 + 2 * k23) 0))) h))) ∧ (¬ (x1 < (nI 14)) → (L_X10_look_28 d x1 h Q))))) : Call (d + 1) MX10_look [.ref 1, .int x1] h Q := by
  show At (d + 1) MX10_look 0 [.ref 1, .int x1] [] h Q
  refine At_iload_n (pc' := 1) iX10_look_0 rfl rfl ?_
  refine At_bipush (v := nI 10) (pc' := 3) iX10_look_1 rfl (by decide) ?_
  refine At_icmp_lt (t := 28) (pc' := 6) iX10_look_3 (by decide) rfl (fun c3 => ?_) (fun c3 => ?_)
  · have hv := hv.1 c3
    exact hv
  · have hv := hv.2 c3
    refine At_iload_n (pc' := 7) iX10_look_6 rfl rfl ?_
    refine At_bipush (v := nI 14) (pc' := 9) iX10_look_7 rfl (by decide) ?_
    refine At_icmp_ge (t := 28) (pc' := 12) iX10_look_9 (by decide) rfl (fun c9 => ?_) (fun c9 => ?_)
    · have hv := hv.2 c9
      exact hv
    · have hv := hv.1 c9
      refine At_aload_n (pc' := 13) iX10_look_12 rfl rfl ?_
      refine At_getR (pc' := 16) iX10_look_13 rfl f_10_19 (kdK eT (kd_1 hL)) (by decide) (rfH eT (rf_1_1 hL)) ?_
      refine At_getR (pc' := 19) iX10_look_16 rfl f_10_115 (kdK eT (kd_12 hL)) (by decide) (rfH eT (rf_12_5 hL)) ?_
      refine At_iload_n (pc' := 20) iX10_look_19 rfl rfl ?_
      refine At_bipush (v := nI 10) (pc' := 22) iX10_look_20 rfl (by decide) ?_
      refine At_isub (pc' := 23) iX10_look_22 rfl ?_
      obtain ⟨k23, e23, hk23, hv⟩ := hv
      refine At_aald (b := (20 + 2 * k23)) (pc' := 24) iX10_look_23 rfl (kdH eT (kd_14 hL)) (by decide) (by rw [e23]; exact inB_nI hk23 (by decide)) (by rw [e23, nI_clamp (by omega)]; exact rfH eT (rf_song hL hk23)) ?_
      refine At_getI (pc' := 27) iX10_look_24 rfl f_10_129 (kdK eT (X7_k0 (isX7_song hL hk23))) (by decide) ?_
      exact At_retI iX10_look_27 rfl hv
set_option maxRecDepth 20000 in
theorem b_X10_look_28 {d : Nat} {T : HT} (hL : Lay T) {h : Hp} (eT : h.2.2 = T) (x1 : Int32)  {Q : Option Value → Hp → Prop} (hv : ((x1 < (nI 20)) → (L_X10_look_63 d x1 h Q)) ∧ (¬ (x1 < (nI 20)) → (((x1 < ((nI 20) + (gI h 12 0))) → (Q (some (.int (r_X6_get (gJ h 12 3) (x1 - (nI 20))))) h)) ∧ (¬ (x1 < ((nI 20) + (gI h 12 0))) → (L_X10_look_63 d x1 h Q))))) : L_X10_look_28 d x1 h Q := by
  refine At_iload_n (pc' := 29) iX10_look_28 rfl rfl ?_
  refine At_bipush (v := nI 20) (pc' := 31) iX10_look_29 rfl (by decide) ?_
  refine At_icmp_lt (t := 63) (pc' := 34) iX10_look_31 (by decide) rfl (fun c31 => ?_) (fun c31 => ?_)
  · have hv := hv.1 c31
    exact hv
  · have hv := hv.2 c31
    refine At_iload_n (pc' := 35) iX10_look_34 rfl rfl ?_
    refine At_bipush (v := nI 20) (pc' := 37) iX10_look_35 rfl (by decide) ?_
    refine At_aload_n (pc' := 38) iX10_look_37 rfl rfl ?_
    refine At_getR (pc' := 41) iX10_look_38 rfl f_10_19 (kdK eT (kd_1 hL)) (by decide) (rfH eT (rf_1_1 hL)) ?_
    refine At_getI (pc' := 44) iX10_look_41 rfl f_10_109 (kdK eT (kd_12 hL)) (by decide) ?_
    refine At_iadd (pc' := 45) iX10_look_44 rfl ?_
    refine At_icmp_ge (t := 63) (pc' := 48) iX10_look_45 (by decide) rfl (fun c45 => ?_) (fun c45 => ?_)
    · have hv := hv.2 c45
      exact hv
    · have hv := hv.1 c45
      refine At_aload_n (pc' := 49) iX10_look_48 rfl rfl ?_
      refine At_getR (pc' := 52) iX10_look_49 rfl f_10_19 (kdK eT (kd_1 hL)) (by decide) (rfH eT (rf_1_1 hL)) ?_
      refine At_getJ (pc' := 55) iX10_look_52 rfl f_10_189 (kdK eT (kd_12 hL)) (by decide) ?_
      refine At_iload_n (pc' := 56) iX10_look_55 rfl rfl ?_
      refine At_bipush (v := nI 20) (pc' := 58) iX10_look_56 rfl (by decide) ?_
      refine At_isub (pc' := 59) iX10_look_58 rfl ?_
      refine At_stat (pc' := 62) iX10_look_59 rfl m_10_149 rfl rfl (Nat.le_of_ble_eq_true rfl) (Nat.le_of_ble_eq_true rfl) (Nat.le_of_ble_eq_true rfl) ?_
      refine c_X6_get (h := h) (gJ h 12 3) (x1 - (nI 20))   (show At (d + 1) MX10_look 62 [.ref 1, .int x1] [.int (r_X6_get (gJ h 12 3) (x1 - (nI 20)))] h Q from ?_)
      exact At_retI iX10_look_62 rfl hv
set_option maxRecDepth 20000 in
theorem b_X10_look_63 {d : Nat} {T : HT} (hL : Lay T) {h : Hp} (eT : h.2.2 = T) (x1 : Int32)  {Q : Option Value → Hp → Prop} (hv : ((x1 < (nI 40)) → (L_X10_look_88 d x1 h Q)) ∧ (¬ (x1 < (nI 40)) → (((x1 < (nI 70)) → ((inB (x1 - (nI 40)) 30 = true) ∧ (Q (some (.int (gI h 13 ((x1 - (nI 40)).toNatClampNeg)))) h))) ∧ (¬ (x1 < (nI 70)) → (L_X10_look_88 d x1 h Q))))) : L_X10_look_63 d x1 h Q := by
  refine At_iload_n (pc' := 64) iX10_look_63 rfl rfl ?_
  refine At_bipush (v := nI 40) (pc' := 66) iX10_look_64 rfl (by decide) ?_
  refine At_icmp_lt (t := 88) (pc' := 69) iX10_look_66 (by decide) rfl (fun c66 => ?_) (fun c66 => ?_)
  · have hv := hv.1 c66
    exact hv
  · have hv := hv.2 c66
    refine At_iload_n (pc' := 70) iX10_look_69 rfl rfl ?_
    refine At_bipush (v := nI 70) (pc' := 72) iX10_look_70 rfl (by decide) ?_
    refine At_icmp_ge (t := 88) (pc' := 75) iX10_look_72 (by decide) rfl (fun c72 => ?_) (fun c72 => ?_)
    · have hv := hv.2 c72
      exact hv
    · have hv := hv.1 c72
      refine At_aload_n (pc' := 76) iX10_look_75 rfl rfl ?_
      refine At_getR (pc' := 79) iX10_look_76 rfl f_10_19 (kdK eT (kd_1 hL)) (by decide) (rfH eT (rf_1_1 hL)) ?_
      refine At_getR (pc' := 82) iX10_look_79 rfl f_10_223 (kdK eT (kd_12 hL)) (by decide) (rfH eT (rf_12_4 hL)) ?_
      refine At_iload_n (pc' := 83) iX10_look_82 rfl rfl ?_
      refine At_bipush (v := nI 40) (pc' := 85) iX10_look_83 rfl (by decide) ?_
      refine At_isub (pc' := 86) iX10_look_85 rfl ?_
      obtain ⟨hn1, hv⟩ := hv
      refine At_iald (pc' := 87) iX10_look_86 rfl (kdH eT (kd_13 hL)) hn1 (show At (d + 1) MX10_look 87 [.ref 1, .int x1] [.int (gI h 13 ((x1 - (nI 40)).toNatClampNeg))] h Q from ?_)
      exact At_retI iX10_look_87 rfl hv
set_option maxRecDepth 20000 in
theorem b_X10_look_88 {d : Nat} {T : HT} (hL : Lay T) {h : Hp} (eT : h.2.2 = T) (x1 : Int32)  {Q : Option Value → Hp → Prop} (hv : (x1 = nI 0 → (Q (some (.int (gI h 12 0))) h)) ∧ (x1 = nI 1 → (Q (some (.int (gI h 12 1))) h)) ∧ (x1 = nI 2 → (Q (some (.int (gI h 15 3))) h)) ∧ (x1 = nI 3 → (Q (some (.int (gI h 15 2))) h)) ∧ (x1 = nI 4 → (Q (some (.int (gI h 15 1))) h)) ∧ (x1 = nI 5 → (Q (some (.int (gI h 28 0))) h)) ∧ ((x1.toInt < 0 ∨ 5 < x1.toInt) → (Q (some (.int (-1))) h))) : L_X10_look_88 d x1 h Q := by
  refine At_iload_n (pc' := 89) iX10_look_88 rfl rfl ?_
  rcases tabCs x1 0 5 (by decide) with ct89 | ⟨kt, hkt, ct89⟩
  · have hv := hv.2.2.2.2.2.2 ct89
    refine At_tabOut (t := 185) iX10_look_89 ct89 (by decide) ?_
    refine At_iconst (v := (-1)) (pc' := 186) iX10_look_185 rfl (by decide) ?_
    exact At_retI iX10_look_186 rfl hv
  · match kt, hkt, ct89 with
    | 0, _, ct89 =>
      have hv := hv.1 ct89
      refine At_tabC (t := 128) (v := nI 0) ct89 iX10_look_89 (by decide) rfl (by decide) ?_
      refine At_aload_n (pc' := 129) iX10_look_128 rfl rfl ?_
      refine At_getR (pc' := 132) iX10_look_129 rfl f_10_19 (kdK eT (kd_1 hL)) (by decide) (rfH eT (rf_1_1 hL)) ?_
      refine At_getI (pc' := 135) iX10_look_132 rfl f_10_109 (kdK eT (kd_12 hL)) (by decide) ?_
      exact At_retI iX10_look_135 rfl hv
    | 1, _, ct89 =>
      have hv := hv.2.1 ct89
      refine At_tabC (t := 136) (v := nI 1) ct89 iX10_look_89 (by decide) rfl (by decide) ?_
      refine At_aload_n (pc' := 137) iX10_look_136 rfl rfl ?_
      refine At_getR (pc' := 140) iX10_look_137 rfl f_10_19 (kdK eT (kd_1 hL)) (by decide) (rfH eT (rf_1_1 hL)) ?_
      refine At_getI (pc' := 143) iX10_look_140 rfl f_10_88 (kdK eT (kd_12 hL)) (by decide) ?_
      exact At_retI iX10_look_143 rfl hv
    | 2, _, ct89 =>
      have hv := hv.2.2.1 ct89
      refine At_tabC (t := 144) (v := nI 2) ct89 iX10_look_89 (by decide) rfl (by decide) ?_
      refine At_aload_n (pc' := 145) iX10_look_144 rfl rfl ?_
      refine At_getR (pc' := 148) iX10_look_145 rfl f_10_19 (kdK eT (kd_1 hL)) (by decide) (rfH eT (rf_1_1 hL)) ?_
      refine At_getR (pc' := 151) iX10_look_148 rfl f_10_57 (kdK eT (kd_12 hL)) (by decide) (rfH eT (rf_12_6 hL)) ?_
      refine At_getI (pc' := 154) iX10_look_151 rfl f_10_165 (kdK eT (kd_15 hL)) (by decide) ?_
      exact At_retI iX10_look_154 rfl hv
    | 3, _, ct89 =>
      have hv := hv.2.2.2.1 ct89
      refine At_tabC (t := 155) (v := nI 3) ct89 iX10_look_89 (by decide) rfl (by decide) ?_
      refine At_aload_n (pc' := 156) iX10_look_155 rfl rfl ?_
      refine At_getR (pc' := 159) iX10_look_156 rfl f_10_19 (kdK eT (kd_1 hL)) (by decide) (rfH eT (rf_1_1 hL)) ?_
      refine At_getR (pc' := 162) iX10_look_159 rfl f_10_57 (kdK eT (kd_12 hL)) (by decide) (rfH eT (rf_12_6 hL)) ?_
      refine At_getI (pc' := 165) iX10_look_162 rfl f_10_263 (kdK eT (kd_15 hL)) (by decide) ?_
      exact At_retI iX10_look_165 rfl hv
    | 4, _, ct89 =>
      have hv := hv.2.2.2.2.1 ct89
      refine At_tabC (t := 166) (v := nI 4) ct89 iX10_look_89 (by decide) rfl (by decide) ?_
      refine At_aload_n (pc' := 167) iX10_look_166 rfl rfl ?_
      refine At_getR (pc' := 170) iX10_look_167 rfl f_10_19 (kdK eT (kd_1 hL)) (by decide) (rfH eT (rf_1_1 hL)) ?_
      refine At_getR (pc' := 173) iX10_look_170 rfl f_10_57 (kdK eT (kd_12 hL)) (by decide) (rfH eT (rf_12_6 hL)) ?_
      refine At_getI (pc' := 176) iX10_look_173 rfl f_10_60 (kdK eT (kd_15 hL)) (by decide) ?_
      exact At_retI iX10_look_176 rfl hv
    | 5, _, ct89 =>
      have hv := hv.2.2.2.2.2.1 ct89
      refine At_tabC (t := 177) (v := nI 5) ct89 iX10_look_89 (by decide) rfl (by decide) ?_
      refine At_aload_n (pc' := 178) iX10_look_177 rfl rfl ?_
      refine At_getR (pc' := 181) iX10_look_178 rfl f_10_26 (kdK eT (kd_1 hL)) (by decide) (rfH eT (rf_1_2 hL)) ?_
      refine At_getI (pc' := 184) iX10_look_181 rfl f_10_266 (kdK eT (kd_28 hL)) (by decide) ?_
      exact At_retI iX10_look_184 rfl hv
    | k + 6, hkt, _ => exact absurd hkt (by omega)
-- X11_comes (calls X11_placeOf)
set_option maxRecDepth 20000 in
theorem b_X11_comes {d : Nat} {T : HT} (hL : Lay T) {h : Hp} (eT : h.2.2 = T) (x1 : Int32) (x2 : Int32)  {Q : Option Value → Hp → Prop} (hv : CallI (d + 0) MX11_placeOf [.ref 59, .int x1] h (fun r2 h2 => h2.2.2 = T ∧ ((inB r2 16384 = true) ∧ ((((gI h2 67 r2.toNatClampNeg) = x1) → (Q none h2)) ∧ (¬ ((gI h2 67 r2.toNatClampNeg) = x1) → ((inB r2 16384 = true) ∧ ((inB r2 16384 = true) ∧ ((inB (gI (sI (sI h2 67 r2.toNatClampNeg x1) 68 r2.toNatClampNeg x2) 59 23) 5040 = true) ∧ (Q none (sI (sI (sI (sI h2 67 r2.toNatClampNeg x1) 68 r2.toNatClampNeg x2) 69 ((gI (sI (sI h2 67 r2.toNatClampNeg x1) 68 r2.toNatClampNeg x2) 59 23).toNatClampNeg) x1) 59 23 ((gI (sI (sI (sI h2 67 r2.toNatClampNeg x1) 68 r2.toNatClampNeg x2) 69 ((gI (sI (sI h2 67 r2.toNatClampNeg x1) 68 r2.toNatClampNeg x2) 59 23).toNatClampNeg) x1) 59 23) + (nI 1)))))))))))) : Call (d + 1) MX11_comes [.ref 59, .int x1, .int x2] h Q := by
  show At (d + 1) MX11_comes 0 [.ref 59, .int x1, .int x2, un] [] h Q
  refine At_aload_n (pc' := 1) iX11_comes_0 rfl rfl ?_
  refine At_iload_n (pc' := 2) iX11_comes_1 rfl rfl ?_
  refine At_virt (pc' := 5) iX11_comes_2 rfl m_11_229 rfl rfl (kdK eT (kd_59 hL)) (Nat.le_of_ble_eq_true rfl) (Nat.le_of_ble_eq_true rfl) ?_
  refine At.mono (show CallI (d + 0) MX11_placeOf [.ref 59, .int x1] h _ from hv) ?_
  rintro _ h2 ⟨r2, rfl, eT2, hv⟩
  show At (d + 1) MX11_comes 5 [.ref 59, .int x1, .int x2, un] [.int r2] h2 Q
  refine At_istore_n (L' := [.ref 59, .int x1, .int x2, .int r2]) (pc' := 6) iX11_comes_5 rfl (Nat.le_of_ble_eq_true rfl) rfl ?_
  refine At_aload_n (pc' := 7) iX11_comes_6 rfl rfl ?_
  refine At_getR (pc' := 10) iX11_comes_7 rfl f_11_35 (kdK eT2 (kd_59 hL)) (by decide) (rfH eT2 (rf_59_19 hL)) ?_
  refine At_iload_n (pc' := 11) iX11_comes_10 rfl rfl ?_
  obtain ⟨hn1, hv⟩ := hv
  refine At_iald (pc' := 12) iX11_comes_11 rfl (kdH eT2 (kd_67 hL)) hn1 (show At (d + 1) MX11_comes 12 [.ref 59, .int x1, .int x2, .int r2] [.int (gI h2 67 r2.toNatClampNeg)] h2 Q from ?_)
  refine At_iload_n (pc' := 13) iX11_comes_12 rfl rfl ?_
  refine At_icmp_ne (t := 17) (pc' := 16) iX11_comes_13 (by decide) rfl (fun c13 => ?_) (fun c13 => ?_)
  · have hv := hv.2 c13
    refine At_aload_n (pc' := 18) iX11_comes_17 rfl rfl ?_
    refine At_getR (pc' := 21) iX11_comes_18 rfl f_11_35 (kdK eT2 (kd_59 hL)) (by decide) (rfH eT2 (rf_59_19 hL)) ?_
    refine At_iload_n (pc' := 22) iX11_comes_21 rfl rfl ?_
    refine At_iload_n (pc' := 23) iX11_comes_22 rfl rfl ?_
    obtain ⟨hn2, hv⟩ := hv
    refine At_iast (pc' := 24) iX11_comes_23 rfl (kdH eT2 (kd_67 hL)) hn2 (show At (d + 1) MX11_comes 24 [.ref 59, .int x1, .int x2, .int r2] [] (sI h2 67 r2.toNatClampNeg x1) Q from ?_)
    refine At_aload_n (pc' := 25) iX11_comes_24 rfl rfl ?_
    refine At_getR (pc' := 28) iX11_comes_25 rfl f_11_38 (kdK eT2 (kd_59 hL)) (by decide) (rfH eT2 (rf_59_20 hL)) ?_
    refine At_iload_n (pc' := 29) iX11_comes_28 rfl rfl ?_
    refine At_iload_n (pc' := 30) iX11_comes_29 rfl rfl ?_
    obtain ⟨hn3, hv⟩ := hv
    refine At_iast (pc' := 31) iX11_comes_30 rfl (kdH eT2 (kd_68 hL)) hn3 (show At (d + 1) MX11_comes 31 [.ref 59, .int x1, .int x2, .int r2] [] (sI (sI h2 67 r2.toNatClampNeg x1) 68 r2.toNatClampNeg x2) Q from ?_)
    refine At_aload_n (pc' := 32) iX11_comes_31 rfl rfl ?_
    refine At_getR (pc' := 35) iX11_comes_32 rfl f_11_41 (kdK eT2 (kd_59 hL)) (by decide) (rfH eT2 (rf_59_21 hL)) ?_
    refine At_aload_n (pc' := 36) iX11_comes_35 rfl rfl ?_
    refine At_getI (pc' := 39) iX11_comes_36 rfl f_11_232 (kdK eT2 (kd_59 hL)) (by decide) ?_
    refine At_iload_n (pc' := 40) iX11_comes_39 rfl rfl ?_
    obtain ⟨hn4, hv⟩ := hv
    refine At_iast (pc' := 41) iX11_comes_40 rfl (kdH eT2 (kd_69 hL)) hn4 (show At (d + 1) MX11_comes 41 [.ref 59, .int x1, .int x2, .int r2] [] (sI (sI (sI h2 67 r2.toNatClampNeg x1) 68 r2.toNatClampNeg x2) 69 ((gI (sI (sI h2 67 r2.toNatClampNeg x1) 68 r2.toNatClampNeg x2) 59 23).toNatClampNeg) x1) Q from ?_)
    refine At_aload_n (pc' := 42) iX11_comes_41 rfl rfl ?_
    refine At_dup (pc' := 43) iX11_comes_42 rfl rfl ?_
    refine At_getI (pc' := 46) iX11_comes_43 rfl f_11_232 (kdK eT2 (kd_59 hL)) (by decide) ?_
    refine At_iconst (v := nI 1) (pc' := 47) iX11_comes_46 rfl (by decide) ?_
    refine At_iadd (pc' := 48) iX11_comes_47 rfl ?_
    refine At_putI (pc' := 51) iX11_comes_48 rfl f_11_232 (kdK eT2 (kd_59 hL)) (Or.inl rfl) (by decide) ?_
    exact At_retV iX11_comes_51 rfl hv
  · have hv := hv.1 c13
    exact At_retV iX11_comes_16 rfl hv
-- X11_farOf (calls X11_placeOf)
set_option maxRecDepth 20000 in
theorem b_X11_farOf {d : Nat} {T : HT} (hL : Lay T) {h : Hp} (eT : h.2.2 = T) (x1 : Int32)  {Q : Option Value → Hp → Prop} (hv : CallI (d + 0) MX11_placeOf [.ref 59, .int x1] h (fun r2 h2 => h2.2.2 = T ∧ ((inB r2 16384 = true) ∧ ((((gI h2 67 r2.toNatClampNeg) = x1) → ((inB r2 16384 = true) ∧ (Q (some (.int (gI h2 68 r2.toNatClampNeg))) h2))) ∧ (¬ ((gI h2 67 r2.toNatClampNeg) = x1) → (Q (some (.int (-1))) h2)))))) : Call (d + 1) MX11_farOf [.ref 59, .int x1] h Q := by
  show At (d + 1) MX11_farOf 0 [.ref 59, .int x1, un] [] h Q
  refine At_aload_n (pc' := 1) iX11_farOf_0 rfl rfl ?_
  refine At_iload_n (pc' := 2) iX11_farOf_1 rfl rfl ?_
  refine At_virt (pc' := 5) iX11_farOf_2 rfl m_11_229 rfl rfl (kdK eT (kd_59 hL)) (Nat.le_of_ble_eq_true rfl) (Nat.le_of_ble_eq_true rfl) ?_
  refine At.mono (show CallI (d + 0) MX11_placeOf [.ref 59, .int x1] h _ from hv) ?_
  rintro _ h2 ⟨r2, rfl, eT2, hv⟩
  show At (d + 1) MX11_farOf 5 [.ref 59, .int x1, un] [.int r2] h2 Q
  refine At_istore_n (L' := [.ref 59, .int x1, .int r2]) (pc' := 6) iX11_farOf_5 rfl (Nat.le_of_ble_eq_true rfl) rfl ?_
  refine At_aload_n (pc' := 7) iX11_farOf_6 rfl rfl ?_
  refine At_getR (pc' := 10) iX11_farOf_7 rfl f_11_35 (kdK eT2 (kd_59 hL)) (by decide) (rfH eT2 (rf_59_19 hL)) ?_
  refine At_iload_n (pc' := 11) iX11_farOf_10 rfl rfl ?_
  obtain ⟨hn1, hv⟩ := hv
  refine At_iald (pc' := 12) iX11_farOf_11 rfl (kdH eT2 (kd_67 hL)) hn1 (show At (d + 1) MX11_farOf 12 [.ref 59, .int x1, .int r2] [.int (gI h2 67 r2.toNatClampNeg)] h2 Q from ?_)
  refine At_iload_n (pc' := 13) iX11_farOf_12 rfl rfl ?_
  refine At_icmp_ne (t := 25) (pc' := 16) iX11_farOf_13 (by decide) rfl (fun c13 => ?_) (fun c13 => ?_)
  · have hv := hv.2 c13
    refine At_iconst (v := (-1)) (pc' := 26) iX11_farOf_25 rfl (by decide) ?_
    exact At_retI iX11_farOf_26 rfl hv
  · have hv := hv.1 c13
    refine At_aload_n (pc' := 17) iX11_farOf_16 rfl rfl ?_
    refine At_getR (pc' := 20) iX11_farOf_17 rfl f_11_38 (kdK eT2 (kd_59 hL)) (by decide) (rfH eT2 (rf_59_20 hL)) ?_
    refine At_iload_n (pc' := 21) iX11_farOf_20 rfl rfl ?_
    obtain ⟨hn2, hv⟩ := hv
    refine At_iald (pc' := 22) iX11_farOf_21 rfl (kdH eT2 (kd_68 hL)) hn2 (show At (d + 1) MX11_farOf 22 [.ref 59, .int x1, .int r2] [.int (gI h2 68 r2.toNatClampNeg)] h2 Q from ?_)
    refine At_goto (t := 26) iX11_farOf_22 (by decide) ?_
    exact At_retI iX11_farOf_26 rfl hv
-- X11_isLeast (calls X11_slotOf)
def L_X11_isLeast_6 (d : Nat) (x1 : Int32) (x2 : Int32) (h : Hp) (Q : Option Value → Hp → Prop) : Prop := At (d + 1) MX11_isLeast 6 [.ref 59, .int x1, .int x2] [] h Q
set_option maxRecDepth 20000 in
theorem b_X11_isLeast {d : Nat} {T : HT} (hL : Lay T) {h : Hp} (eT : h.2.2 = T) (x1 : Int32)  {Q : Option Value → Hp → Prop} (hv : CallI (d + 0) MX11_slotOf [.ref 59, .int x1] h (fun r2 h2 => h2.2.2 = T ∧ (L_X11_isLeast_6 d x1 r2 h2 Q))) : Call (d + 1) MX11_isLeast [.ref 59, .int x1] h Q := by
  show At (d + 1) MX11_isLeast 0 [.ref 59, .int x1, un] [] h Q
  refine At_aload_n (pc' := 1) iX11_isLeast_0 rfl rfl ?_
  refine At_iload_n (pc' := 2) iX11_isLeast_1 rfl rfl ?_
  refine At_virt (pc' := 5) iX11_isLeast_2 rfl m_11_217 rfl rfl (kdK eT (kd_59 hL)) (Nat.le_of_ble_eq_true rfl) (Nat.le_of_ble_eq_true rfl) ?_
  refine At.mono (show CallI (d + 0) MX11_slotOf [.ref 59, .int x1] h _ from hv) ?_
  rintro _ h2 ⟨r2, rfl, eT2, hv⟩
  show At (d + 1) MX11_isLeast 5 [.ref 59, .int x1, un] [.int r2] h2 Q
  refine At_istore_n (L' := [.ref 59, .int x1, .int r2]) (pc' := 6) iX11_isLeast_5 rfl (Nat.le_of_ble_eq_true rfl) rfl ?_
  exact hv
set_option maxRecDepth 20000 in
theorem b_X11_isLeast_6 {d : Nat} {T : HT} (hL : Lay T) {h : Hp} (eT : h.2.2 = T) (x1 : Int32) (x2 : Int32)  {Q : Option Value → Hp → Prop} (hv : ((x2 = x1) → (Q (some (.int (b2i true))) h)) ∧ (¬ (x2 = x1) → (((x2 < x1) → (Q (some (.int (b2i false))) h)) ∧ (¬ (x2 < x1) → (CallI (d + 0) MX11_slotOf [.ref 59, .int x2] h (fun r20 h20 => h20.2.2 = T ∧ (L_X11_isLeast_6 d x1 r20 h20 Q))))))) : L_X11_isLeast_6 d x1 x2 h Q := by
  refine At_iload_n (pc' := 7) iX11_isLeast_6 rfl rfl ?_
  refine At_iload_n (pc' := 8) iX11_isLeast_7 rfl rfl ?_
  refine At_icmp_eq (t := 27) (pc' := 11) iX11_isLeast_8 (by decide) rfl (fun c8 => ?_) (fun c8 => ?_)
  · have hv := hv.1 c8
    refine At_iconst (v := nI 1) (pc' := 28) iX11_isLeast_27 rfl (by decide) ?_
    exact At_retT iX11_isLeast_28 rfl hv
  · have hv := hv.2 c8
    refine At_iload_n (pc' := 12) iX11_isLeast_11 rfl rfl ?_
    refine At_iload_n (pc' := 13) iX11_isLeast_12 rfl rfl ?_
    refine At_icmp_ge (t := 18) (pc' := 16) iX11_isLeast_13 (by decide) rfl (fun c13 => ?_) (fun c13 => ?_)
    · have hv := hv.2 c13
      refine At_aload_n (pc' := 19) iX11_isLeast_18 rfl rfl ?_
      refine At_iload_n (pc' := 20) iX11_isLeast_19 rfl rfl ?_
      refine At_virt (pc' := 23) iX11_isLeast_20 rfl m_11_217 rfl rfl (kdK eT (kd_59 hL)) (Nat.le_of_ble_eq_true rfl) (Nat.le_of_ble_eq_true rfl) ?_
      refine At.mono (show CallI (d + 0) MX11_slotOf [.ref 59, .int x2] h _ from hv) ?_
      rintro _ h20 ⟨r20, rfl, eT20, hv⟩
      show At (d + 1) MX11_isLeast 23 [.ref 59, .int x1, .int x2] [.int r20] h20 Q
      refine At_istore_n (L' := [.ref 59, .int x1, .int r20]) (pc' := 24) iX11_isLeast_23 rfl (Nat.le_of_ble_eq_true rfl) rfl ?_
      refine At_goto (t := 6) iX11_isLeast_24 (by decide) ?_
      exact hv
    · have hv := hv.1 c13
      refine At_iconst (v := nI 0) (pc' := 17) iX11_isLeast_16 rfl (by decide) ?_
      exact At_retF iX11_isLeast_17 rfl hv
-- X11_lifts (loop)
def L_X11_lifts_23 (d : Nat) (x2 : Int32) (x3 : Int32) (x4 : Int32) (x5 : Int32) (x6 : Int32) (h : Hp) (Q : Option Value → Hp → Prop) : Prop := ∀ v1 : Value, At (d + 1) MX11_lifts 23 [.ref 59, v1, .int x2, .int x3, .int x4, .int x5, .int x6] [] h Q
set_option maxRecDepth 20000 in
theorem b_X11_lifts {d : Nat} {T : HT} (hL : Lay T) {h : Hp} (eT : h.2.2 = T) (x1 : Int32) (x2 : Int32) (x3 : Int32)  {Q : Option Value → Hp → Prop} (hv : (inB x1 16 = true) ∧ (((x1 < x2) → (L_X11_lifts_23 d x2 x3 (gI h 65 x1.toNatClampNeg) (nI 1) x1 h Q)) ∧ (¬ (x1 < x2) → (L_X11_lifts_23 d x2 x3 (gI h 65 x1.toNatClampNeg) (-1) x1 h Q)))) : Call (d + 1) MX11_lifts [.ref 59, .int x1, .int x2, .int x3] h Q := by
  show At (d + 1) MX11_lifts 0 [.ref 59, .int x1, .int x2, .int x3, un, un, un] [] h Q
  refine At_aload_n (pc' := 1) iX11_lifts_0 rfl rfl ?_
  refine At_getR (pc' := 4) iX11_lifts_1 rfl f_11_29 (kdK eT (kd_59 hL)) (by decide) (rfH eT (rf_59_17 hL)) ?_
  refine At_iload_n (pc' := 5) iX11_lifts_4 rfl rfl ?_
  obtain ⟨hn1, hv⟩ := hv
  refine At_iald (pc' := 6) iX11_lifts_5 rfl (kdH eT (kd_65 hL)) hn1 (show At (d + 1) MX11_lifts 6 [.ref 59, .int x1, .int x2, .int x3, un, un, un] [.int (gI h 65 x1.toNatClampNeg)] h Q from ?_)
  refine At_istore (L' := [.ref 59, .int x1, .int x2, .int x3, .int (gI h 65 x1.toNatClampNeg), un, un]) (pc' := 8) iX11_lifts_6 rfl (Nat.le_of_ble_eq_true rfl) rfl ?_
  refine At_iload_n (pc' := 9) iX11_lifts_8 rfl rfl ?_
  refine At_iload_n (pc' := 10) iX11_lifts_9 rfl rfl ?_
  refine At_icmp_ge (t := 17) (pc' := 13) iX11_lifts_10 (by decide) rfl (fun c10 => ?_) (fun c10 => ?_)
  · have hv := hv.2 c10
    refine At_iconst (v := (-1)) (pc' := 18) iX11_lifts_17 rfl (by decide) ?_
    refine At_istore (L' := [.ref 59, .int x1, .int x2, .int x3, .int (gI h 65 x1.toNatClampNeg), .int (-1), un]) (pc' := 20) iX11_lifts_18 rfl (Nat.le_of_ble_eq_true rfl) rfl ?_
    refine At_iload_n (pc' := 21) iX11_lifts_20 rfl rfl ?_
    refine At_istore (L' := [.ref 59, .int x1, .int x2, .int x3, .int (gI h 65 x1.toNatClampNeg), .int (-1), .int x1]) (pc' := 23) iX11_lifts_21 rfl (Nat.le_of_ble_eq_true rfl) rfl ?_
    exact hv _
  · have hv := hv.1 c10
    refine At_iconst (v := nI 1) (pc' := 14) iX11_lifts_13 rfl (by decide) ?_
    refine At_goto (t := 18) iX11_lifts_14 (by decide) ?_
    refine At_istore (L' := [.ref 59, .int x1, .int x2, .int x3, .int (gI h 65 x1.toNatClampNeg), .int (nI 1), un]) (pc' := 20) iX11_lifts_18 rfl (Nat.le_of_ble_eq_true rfl) rfl ?_
    refine At_iload_n (pc' := 21) iX11_lifts_20 rfl rfl ?_
    refine At_istore (L' := [.ref 59, .int x1, .int x2, .int x3, .int (gI h 65 x1.toNatClampNeg), .int (nI 1), .int x1]) (pc' := 23) iX11_lifts_21 rfl (Nat.le_of_ble_eq_true rfl) rfl ?_
    exact hv _
set_option maxRecDepth 20000 in
theorem b_X11_lifts_23 {d : Nat} {T : HT} (hL : Lay T) {h : Hp} (eT : h.2.2 = T) (x2 : Int32) (x3 : Int32) (x4 : Int32) (x5 : Int32) (x6 : Int32)  {Q : Option Value → Hp → Prop} (hv : ((x6 = x2) → ((inB x2 16 = true) ∧ (Q none (sI h 65 x2.toNatClampNeg x4)))) ∧ (¬ (x6 = x2) → ((inB (x6 + x5) 16 = true) ∧ ((inB x6 16 = true) ∧ ((inB x6 16 = true) ∧ ((p_X11_goesOver x4 (gI (sI h 65 x6.toNatClampNeg (gI h 65 ((x6 + x5).toNatClampNeg))) 65 x6.toNatClampNeg) x3 (sI h 65 x6.toNatClampNeg (gI h 65 ((x6 + x5).toNatClampNeg)))) ∧ (L_X11_lifts_23 d x2 x3 x4 x5 (x6 + x5) (w_X11_goesOver x4 (gI (sI h 65 x6.toNatClampNeg (gI h 65 ((x6 + x5).toNatClampNeg))) 65 x6.toNatClampNeg) x3 (sI h 65 x6.toNatClampNeg (gI h 65 ((x6 + x5).toNatClampNeg)))) Q))))))) : L_X11_lifts_23 d x2 x3 x4 x5 x6 h Q := by
  intro v1
  refine At_iload (pc' := 25) iX11_lifts_23 rfl rfl ?_
  refine At_iload_n (pc' := 26) iX11_lifts_25 rfl rfl ?_
  refine At_icmp_eq (t := 70) (pc' := 29) iX11_lifts_26 (by decide) rfl (fun c26 => ?_) (fun c26 => ?_)
  · have hv := hv.1 c26
    refine At_aload_n (pc' := 71) iX11_lifts_70 rfl rfl ?_
    refine At_getR (pc' := 74) iX11_lifts_71 rfl f_11_29 (kdK eT (kd_59 hL)) (by decide) (rfH eT (rf_59_17 hL)) ?_
    refine At_iload_n (pc' := 75) iX11_lifts_74 rfl rfl ?_
    refine At_iload (pc' := 77) iX11_lifts_75 rfl rfl ?_
    obtain ⟨hn1, hv⟩ := hv
    refine At_iast (pc' := 78) iX11_lifts_77 rfl (kdH eT (kd_65 hL)) hn1 (show At (d + 1) MX11_lifts 78 [.ref 59, v1, .int x2, .int x3, .int x4, .int x5, .int x6] [] (sI h 65 x2.toNatClampNeg x4) Q from ?_)
    exact At_retV iX11_lifts_78 rfl hv
  · have hv := hv.2 c26
    refine At_aload_n (pc' := 30) iX11_lifts_29 rfl rfl ?_
    refine At_getR (pc' := 33) iX11_lifts_30 rfl f_11_29 (kdK eT (kd_59 hL)) (by decide) (rfH eT (rf_59_17 hL)) ?_
    refine At_iload (pc' := 35) iX11_lifts_33 rfl rfl ?_
    refine At_aload_n (pc' := 36) iX11_lifts_35 rfl rfl ?_
    refine At_getR (pc' := 39) iX11_lifts_36 rfl f_11_29 (kdK eT (kd_59 hL)) (by decide) (rfH eT (rf_59_17 hL)) ?_
    refine At_iload (pc' := 41) iX11_lifts_39 rfl rfl ?_
    refine At_iload (pc' := 43) iX11_lifts_41 rfl rfl ?_
    refine At_iadd (pc' := 44) iX11_lifts_43 rfl ?_
    obtain ⟨hn2, hv⟩ := hv
    refine At_iald (pc' := 45) iX11_lifts_44 rfl (kdH eT (kd_65 hL)) hn2 (show At (d + 1) MX11_lifts 45 [.ref 59, v1, .int x2, .int x3, .int x4, .int x5, .int x6] [.int (gI h 65 ((x6 + x5).toNatClampNeg)), .int x6, .ref 65] h Q from ?_)
    obtain ⟨hn3, hv⟩ := hv
    refine At_iast (pc' := 46) iX11_lifts_45 rfl (kdH eT (kd_65 hL)) hn3 (show At (d + 1) MX11_lifts 46 [.ref 59, v1, .int x2, .int x3, .int x4, .int x5, .int x6] [] (sI h 65 x6.toNatClampNeg (gI h 65 ((x6 + x5).toNatClampNeg))) Q from ?_)
    refine At_aload_n (pc' := 47) iX11_lifts_46 rfl rfl ?_
    refine At_iload (pc' := 49) iX11_lifts_47 rfl rfl ?_
    refine At_aload_n (pc' := 50) iX11_lifts_49 rfl rfl ?_
    refine At_getR (pc' := 53) iX11_lifts_50 rfl f_11_29 (kdK eT (kd_59 hL)) (by decide) (rfH eT (rf_59_17 hL)) ?_
    refine At_iload (pc' := 55) iX11_lifts_53 rfl rfl ?_
    obtain ⟨hn4, hv⟩ := hv
    refine At_iald (pc' := 56) iX11_lifts_55 rfl (kdH eT (kd_65 hL)) hn4 (show At (d + 1) MX11_lifts 56 [.ref 59, v1, .int x2, .int x3, .int x4, .int x5, .int x6] [.int (gI (sI h 65 x6.toNatClampNeg (gI h 65 ((x6 + x5).toNatClampNeg))) 65 x6.toNatClampNeg), .int x4, .ref 59] (sI h 65 x6.toNatClampNeg (gI h 65 ((x6 + x5).toNatClampNeg))) Q from ?_)
    refine At_iload_n (pc' := 57) iX11_lifts_56 rfl rfl ?_
    refine At_virt (pc' := 60) iX11_lifts_57 rfl m_11_181 rfl rfl (kdK eT (kd_59 hL)) (Nat.le_of_ble_eq_true rfl) (Nat.le_of_ble_eq_true rfl) ?_
    obtain ⟨hn5, hv⟩ := hv
    refine c_X11_goesOver (h := sI h 65 x6.toNatClampNeg (gI h 65 ((x6 + x5).toNatClampNeg))) hL eT x4 (gI (sI h 65 x6.toNatClampNeg (gI h 65 ((x6 + x5).toNatClampNeg))) 65 x6.toNatClampNeg) x3  hn5 (show At (d + 1) MX11_lifts 60 [.ref 59, v1, .int x2, .int x3, .int x4, .int x5, .int x6] [] (w_X11_goesOver x4 (gI (sI h 65 x6.toNatClampNeg (gI h 65 ((x6 + x5).toNatClampNeg))) 65 x6.toNatClampNeg) x3 (sI h 65 x6.toNatClampNeg (gI h 65 ((x6 + x5).toNatClampNeg)))) Q from ?_)
    refine At_iload (pc' := 62) iX11_lifts_60 rfl rfl ?_
    refine At_iload (pc' := 64) iX11_lifts_62 rfl rfl ?_
    refine At_iadd (pc' := 65) iX11_lifts_64 rfl ?_
    refine At_istore (L' := [.ref 59, v1, .int x2, .int x3, .int x4, .int x5, .int (x6 + x5)]) (pc' := 67) iX11_lifts_65 rfl (Nat.le_of_ble_eq_true rfl) rfl ?_
    refine At_goto (t := 23) iX11_lifts_67 (by decide) ?_
    exact hv _
-- X11_look (sw)
set_option maxRecDepth 20000 in
theorem b_X11_look {d : Nat} {T : HT} (hL : Lay T) {h : Hp} (eT : h.2.2 = T) (x1 : Int32)  {Q : Option Value → Hp → Prop} (hv : (x1 = nI 0 → (Q (some (.int (gI h 60 0))) h)) ∧ (x1 = nI 1 → (Q (some (.int (gI h 60 1))) h)) ∧ (x1 = nI 2 → (Q (some (.int (gI h 60 3))) h)) ∧ (x1 = nI 3 → (Q (some (.int (gI h 60 4))) h)) ∧ (x1 = nI 4 → (Q (some (.int (gI h 60 2))) h)) ∧ (x1 = nI 5 → (Q (some (.int (gI h 59 3))) h)) ∧ ((x1.toInt < 0 ∨ 5 < x1.toInt) → ((((r_X11_isIn x1 (nI 10) (nI 13)) = true) → ((inB (((nI 975) + x1) - (nI 10)) 4180 = true) ∧ (Q (some (.int (gI h 60 ((((nI 975) + x1) - (nI 10)).toNatClampNeg)))) h))) ∧ (¬ ((r_X11_isIn x1 (nI 10) (nI 13)) = true) → ((((r_X11_isIn x1 (nI 20) ((nI 19) + (gI h 60 0))) = true) → ((inB (((nI 920) + x1) - (nI 20)) 4180 = true) ∧ (Q (some (.int (gI h 60 ((((nI 920) + x1) - (nI 20)).toNatClampNeg)))) h))) ∧ (¬ ((r_X11_isIn x1 (nI 20) ((nI 19) + (gI h 60 0))) = true) → ((((r_X11_isIn x1 (nI 40) (nI 69)) = true) → ((inB (((nI 940) + x1) - (nI 40)) 4180 = true) ∧ (Q (some (.int (gI h 60 ((((nI 940) + x1) - (nI 40)).toNatClampNeg)))) h))) ∧ (¬ ((r_X11_isIn x1 (nI 40) (nI 69)) = true) → (Q (some (.int (-1))) h))))))))) : Call (d + 1) MX11_look [.ref 59, .int x1] h Q := by
  show At (d + 1) MX11_look 0 [.ref 59, .int x1] [] h Q
  refine At_iload_n (pc' := 1) iX11_look_0 rfl rfl ?_
  rcases tabCs x1 0 5 (by decide) with ct1 | ⟨kt, hkt, ct1⟩
  · have hv := hv.2.2.2.2.2.2 ct1
    refine At_tabOut (t := 80) iX11_look_1 ct1 (by decide) ?_
    refine At_iload_n (pc' := 81) iX11_look_80 rfl rfl ?_
    refine At_bipush (v := nI 10) (pc' := 83) iX11_look_81 rfl (by decide) ?_
    refine At_bipush (v := nI 13) (pc' := 85) iX11_look_83 rfl (by decide) ?_
    refine At_stat (pc' := 88) iX11_look_85 rfl m_11_72 rfl rfl (Nat.le_of_ble_eq_true rfl) (Nat.le_of_ble_eq_true rfl) (Nat.le_of_ble_eq_true rfl) ?_
    refine c_X11_isIn (h := h) x1 (nI 10) (nI 13)   (show At (d + 1) MX11_look 88 [.ref 59, .int x1] [.int (b2i (r_X11_isIn x1 (nI 10) (nI 13)))] h Q from ?_)
    refine At_zeq (t := 105) (pc' := 91) iX11_look_88 (by decide) rfl (fun c88 => ?_) (fun c88 => ?_)
    · have hv := hv.2 c88
      refine At_iload_n (pc' := 106) iX11_look_105 rfl rfl ?_
      refine At_bipush (v := nI 20) (pc' := 108) iX11_look_106 rfl (by decide) ?_
      refine At_bipush (v := nI 19) (pc' := 110) iX11_look_108 rfl (by decide) ?_
      refine At_aload_n (pc' := 111) iX11_look_110 rfl rfl ?_
      refine At_getR (pc' := 114) iX11_look_111 rfl f_11_7 (kdK eT (kd_59 hL)) (by decide) (rfH eT (rf_59_0 hL)) ?_
      refine At_iconst (v := nI 0) (pc' := 115) iX11_look_114 rfl (by decide) ?_
      refine At_iald (pc' := 116) iX11_look_115 rfl (kdH eT (kd_60 hL)) (by decide) (show At (d + 1) MX11_look 116 [.ref 59, .int x1] [.int (gI h 60 0), .int (nI 19), .int (nI 20), .int x1] h Q from ?_)
      refine At_iadd (pc' := 117) iX11_look_116 rfl ?_
      refine At_stat (pc' := 120) iX11_look_117 rfl m_11_72 rfl rfl (Nat.le_of_ble_eq_true rfl) (Nat.le_of_ble_eq_true rfl) (Nat.le_of_ble_eq_true rfl) ?_
      refine c_X11_isIn (h := h) x1 (nI 20) ((nI 19) + (gI h 60 0))   (show At (d + 1) MX11_look 120 [.ref 59, .int x1] [.int (b2i (r_X11_isIn x1 (nI 20) ((nI 19) + (gI h 60 0))))] h Q from ?_)
      refine At_zeq (t := 137) (pc' := 123) iX11_look_120 (by decide) rfl (fun c120 => ?_) (fun c120 => ?_)
      · have hv := hv.2 c120
        refine At_iload_n (pc' := 138) iX11_look_137 rfl rfl ?_
        refine At_bipush (v := nI 40) (pc' := 140) iX11_look_138 rfl (by decide) ?_
        refine At_bipush (v := nI 69) (pc' := 142) iX11_look_140 rfl (by decide) ?_
        refine At_stat (pc' := 145) iX11_look_142 rfl m_11_72 rfl rfl (Nat.le_of_ble_eq_true rfl) (Nat.le_of_ble_eq_true rfl) (Nat.le_of_ble_eq_true rfl) ?_
        refine c_X11_isIn (h := h) x1 (nI 40) (nI 69)   (show At (d + 1) MX11_look 145 [.ref 59, .int x1] [.int (b2i (r_X11_isIn x1 (nI 40) (nI 69)))] h Q from ?_)
        refine At_zeq (t := 164) (pc' := 148) iX11_look_145 (by decide) rfl (fun c145 => ?_) (fun c145 => ?_)
        · have hv := hv.2 c145
          refine At_iconst (v := (-1)) (pc' := 165) iX11_look_164 rfl (by decide) ?_
          exact At_retI iX11_look_165 rfl hv
        · have hv := hv.1 c145
          refine At_aload_n (pc' := 149) iX11_look_148 rfl rfl ?_
          refine At_getR (pc' := 152) iX11_look_149 rfl f_11_7 (kdK eT (kd_59 hL)) (by decide) (rfH eT (rf_59_0 hL)) ?_
          refine At_sipush (v := nI 940) (pc' := 155) iX11_look_152 rfl (by decide) ?_
          refine At_iload_n (pc' := 156) iX11_look_155 rfl rfl ?_
          refine At_iadd (pc' := 157) iX11_look_156 rfl ?_
          refine At_bipush (v := nI 40) (pc' := 159) iX11_look_157 rfl (by decide) ?_
          refine At_isub (pc' := 160) iX11_look_159 rfl ?_
          obtain ⟨hn1, hv⟩ := hv
          refine At_iald (pc' := 161) iX11_look_160 rfl (kdH eT (kd_60 hL)) hn1 (show At (d + 1) MX11_look 161 [.ref 59, .int x1] [.int (gI h 60 ((((nI 940) + x1) - (nI 40)).toNatClampNeg))] h Q from ?_)
          refine At_goto (t := 165) iX11_look_161 (by decide) ?_
          exact At_retI iX11_look_165 rfl hv
      · have hv := hv.1 c120
        refine At_aload_n (pc' := 124) iX11_look_123 rfl rfl ?_
        refine At_getR (pc' := 127) iX11_look_124 rfl f_11_7 (kdK eT (kd_59 hL)) (by decide) (rfH eT (rf_59_0 hL)) ?_
        refine At_sipush (v := nI 920) (pc' := 130) iX11_look_127 rfl (by decide) ?_
        refine At_iload_n (pc' := 131) iX11_look_130 rfl rfl ?_
        refine At_iadd (pc' := 132) iX11_look_131 rfl ?_
        refine At_bipush (v := nI 20) (pc' := 134) iX11_look_132 rfl (by decide) ?_
        refine At_isub (pc' := 135) iX11_look_134 rfl ?_
        obtain ⟨hn2, hv⟩ := hv
        refine At_iald (pc' := 136) iX11_look_135 rfl (kdH eT (kd_60 hL)) hn2 (show At (d + 1) MX11_look 136 [.ref 59, .int x1] [.int (gI h 60 ((((nI 920) + x1) - (nI 20)).toNatClampNeg))] h Q from ?_)
        exact At_retI iX11_look_136 rfl hv
    · have hv := hv.1 c88
      refine At_aload_n (pc' := 92) iX11_look_91 rfl rfl ?_
      refine At_getR (pc' := 95) iX11_look_92 rfl f_11_7 (kdK eT (kd_59 hL)) (by decide) (rfH eT (rf_59_0 hL)) ?_
      refine At_sipush (v := nI 975) (pc' := 98) iX11_look_95 rfl (by decide) ?_
      refine At_iload_n (pc' := 99) iX11_look_98 rfl rfl ?_
      refine At_iadd (pc' := 100) iX11_look_99 rfl ?_
      refine At_bipush (v := nI 10) (pc' := 102) iX11_look_100 rfl (by decide) ?_
      refine At_isub (pc' := 103) iX11_look_102 rfl ?_
      obtain ⟨hn3, hv⟩ := hv
      refine At_iald (pc' := 104) iX11_look_103 rfl (kdH eT (kd_60 hL)) hn3 (show At (d + 1) MX11_look 104 [.ref 59, .int x1] [.int (gI h 60 ((((nI 975) + x1) - (nI 10)).toNatClampNeg))] h Q from ?_)
      exact At_retI iX11_look_104 rfl hv
  · match kt, hkt, ct1 with
    | 0, _, ct1 =>
      have hv := hv.1 ct1
      refine At_tabC (t := 40) (v := nI 0) ct1 iX11_look_1 (by decide) rfl (by decide) ?_
      refine At_aload_n (pc' := 41) iX11_look_40 rfl rfl ?_
      refine At_getR (pc' := 44) iX11_look_41 rfl f_11_7 (kdK eT (kd_59 hL)) (by decide) (rfH eT (rf_59_0 hL)) ?_
      refine At_iconst (v := nI 0) (pc' := 45) iX11_look_44 rfl (by decide) ?_
      refine At_iald (pc' := 46) iX11_look_45 rfl (kdH eT (kd_60 hL)) (by decide) (show At (d + 1) MX11_look 46 [.ref 59, .int x1] [.int (gI h 60 0)] h Q from ?_)
      exact At_retI iX11_look_46 rfl hv
    | 1, _, ct1 =>
      have hv := hv.2.1 ct1
      refine At_tabC (t := 47) (v := nI 1) ct1 iX11_look_1 (by decide) rfl (by decide) ?_
      refine At_aload_n (pc' := 48) iX11_look_47 rfl rfl ?_
      refine At_getR (pc' := 51) iX11_look_48 rfl f_11_7 (kdK eT (kd_59 hL)) (by decide) (rfH eT (rf_59_0 hL)) ?_
      refine At_iconst (v := nI 1) (pc' := 52) iX11_look_51 rfl (by decide) ?_
      refine At_iald (pc' := 53) iX11_look_52 rfl (kdH eT (kd_60 hL)) (by decide) (show At (d + 1) MX11_look 53 [.ref 59, .int x1] [.int (gI h 60 1)] h Q from ?_)
      exact At_retI iX11_look_53 rfl hv
    | 2, _, ct1 =>
      have hv := hv.2.2.1 ct1
      refine At_tabC (t := 54) (v := nI 2) ct1 iX11_look_1 (by decide) rfl (by decide) ?_
      refine At_aload_n (pc' := 55) iX11_look_54 rfl rfl ?_
      refine At_getR (pc' := 58) iX11_look_55 rfl f_11_7 (kdK eT (kd_59 hL)) (by decide) (rfH eT (rf_59_0 hL)) ?_
      refine At_iconst (v := nI 3) (pc' := 59) iX11_look_58 rfl (by decide) ?_
      refine At_iald (pc' := 60) iX11_look_59 rfl (kdH eT (kd_60 hL)) (by decide) (show At (d + 1) MX11_look 60 [.ref 59, .int x1] [.int (gI h 60 3)] h Q from ?_)
      exact At_retI iX11_look_60 rfl hv
    | 3, _, ct1 =>
      have hv := hv.2.2.2.1 ct1
      refine At_tabC (t := 61) (v := nI 3) ct1 iX11_look_1 (by decide) rfl (by decide) ?_
      refine At_aload_n (pc' := 62) iX11_look_61 rfl rfl ?_
      refine At_getR (pc' := 65) iX11_look_62 rfl f_11_7 (kdK eT (kd_59 hL)) (by decide) (rfH eT (rf_59_0 hL)) ?_
      refine At_iconst (v := nI 4) (pc' := 66) iX11_look_65 rfl (by decide) ?_
      refine At_iald (pc' := 67) iX11_look_66 rfl (kdH eT (kd_60 hL)) (by decide) (show At (d + 1) MX11_look 67 [.ref 59, .int x1] [.int (gI h 60 4)] h Q from ?_)
      exact At_retI iX11_look_67 rfl hv
    | 4, _, ct1 =>
      have hv := hv.2.2.2.2.1 ct1
      refine At_tabC (t := 68) (v := nI 4) ct1 iX11_look_1 (by decide) rfl (by decide) ?_
      refine At_aload_n (pc' := 69) iX11_look_68 rfl rfl ?_
      refine At_getR (pc' := 72) iX11_look_69 rfl f_11_7 (kdK eT (kd_59 hL)) (by decide) (rfH eT (rf_59_0 hL)) ?_
      refine At_iconst (v := nI 2) (pc' := 73) iX11_look_72 rfl (by decide) ?_
      refine At_iald (pc' := 74) iX11_look_73 rfl (kdH eT (kd_60 hL)) (by decide) (show At (d + 1) MX11_look 74 [.ref 59, .int x1] [.int (gI h 60 2)] h Q from ?_)
      exact At_retI iX11_look_74 rfl hv
    | 5, _, ct1 =>
      have hv := hv.2.2.2.2.2.1 ct1
      refine At_tabC (t := 75) (v := nI 5) ct1 iX11_look_1 (by decide) rfl (by decide) ?_
      refine At_aload_n (pc' := 76) iX11_look_75 rfl rfl ?_
      refine At_getI (pc' := 79) iX11_look_76 rfl f_11_69 (kdK eT (kd_59 hL)) (by decide) ?_
      exact At_retI iX11_look_79 rfl hv
    | k + 6, hkt, _ => exact absurd hkt (by omega)
-- X11_period (loop)
def L_X11_period_26 (d : Nat) (x1 : Int32) (x2 : Int32) (h : Hp) (Q : Option Value → Hp → Prop) : Prop := At (d + 1) MX11_period 26 [.ref 59, .int x1, .int x2] [] h Q
set_option maxRecDepth 20000 in
theorem b_X11_period {d : Nat} {T : HT} (hL : Lay T) {h : Hp} (eT : h.2.2 = T) (x1 : Int32)  {Q : Option Value → Hp → Prop} (hv : (((r_X11_isIn x1 (nI 0) (nI 1)) = true) → ((((gI h 60 3) = 0) → (L_X11_period_26 d x1 (nI 0) h Q)) ∧ (¬ ((gI h 60 3) = 0) → (L_X11_period_26 d x1 (nI 1) h Q)))) ∧ (¬ ((r_X11_isIn x1 (nI 0) (nI 1)) = true) → (Q (some (.int (-1))) h))) : Call (d + 1) MX11_period [.ref 59, .int x1] h Q := by
  show At (d + 1) MX11_period 0 [.ref 59, .int x1, un] [] h Q
  refine At_iload_n (pc' := 1) iX11_period_0 rfl rfl ?_
  refine At_iconst (v := nI 0) (pc' := 2) iX11_period_1 rfl (by decide) ?_
  refine At_iconst (v := nI 1) (pc' := 3) iX11_period_2 rfl (by decide) ?_
  refine At_stat (pc' := 6) iX11_period_3 rfl m_11_72 rfl rfl (Nat.le_of_ble_eq_true rfl) (Nat.le_of_ble_eq_true rfl) (Nat.le_of_ble_eq_true rfl) ?_
  refine c_X11_isIn (h := h) x1 (nI 0) (nI 1)   (show At (d + 1) MX11_period 6 [.ref 59, .int x1, un] [.int (b2i (r_X11_isIn x1 (nI 0) (nI 1)))] h Q from ?_)
  refine At_zne (t := 11) (pc' := 9) iX11_period_6 (by decide) rfl (fun c6 => ?_) (fun c6 => ?_)
  · have hv := hv.1 c6
    refine At_aload_n (pc' := 12) iX11_period_11 rfl rfl ?_
    refine At_getR (pc' := 15) iX11_period_12 rfl f_11_7 (kdK eT (kd_59 hL)) (by decide) (rfH eT (rf_59_0 hL)) ?_
    refine At_iconst (v := nI 3) (pc' := 16) iX11_period_15 rfl (by decide) ?_
    refine At_iald (pc' := 17) iX11_period_16 rfl (kdH eT (kd_60 hL)) (by decide) (show At (d + 1) MX11_period 17 [.ref 59, .int x1, un] [.int (gI h 60 3)] h Q from ?_)
    refine At_if_ne (t := 24) (pc' := 20) iX11_period_17 (by decide) rfl (fun c17 => ?_) (fun c17 => ?_)
    · have hv := hv.2 c17
      refine At_iconst (v := nI 1) (pc' := 25) iX11_period_24 rfl (by decide) ?_
      refine At_istore_n (L' := [.ref 59, .int x1, .int (nI 1)]) (pc' := 26) iX11_period_25 rfl (Nat.le_of_ble_eq_true rfl) rfl ?_
      exact hv
    · have hv := hv.1 c17
      refine At_iconst (v := nI 0) (pc' := 21) iX11_period_20 rfl (by decide) ?_
      refine At_goto (t := 25) iX11_period_21 (by decide) ?_
      refine At_istore_n (L' := [.ref 59, .int x1, .int (nI 0)]) (pc' := 26) iX11_period_25 rfl (Nat.le_of_ble_eq_true rfl) rfl ?_
      exact hv
  · have hv := hv.2 c6
    refine At_iconst (v := (-1)) (pc' := 10) iX11_period_9 rfl (by decide) ?_
    exact At_retI iX11_period_10 rfl hv
set_option maxRecDepth 20000 in
theorem b_X11_period_26 {d : Nat} {T : HT} (hL : Lay T) {h : Hp} (eT : h.2.2 = T) (x1 : Int32) (x2 : Int32)  {Q : Option Value → Hp → Prop} (hv : ((0 < x2) → (CallZ (d + 0) MX11_comesAgain [.ref 59, .int x2, .int x1] h (fun r33 h33 => h33.2.2 = T ∧ (((r33 = true) → (Q (some (.int x2)) h33)) ∧ (¬ (r33 = true) → (L_X11_period_26 d x1 (x2 + nI 1) h33 Q)))))) ∧ (¬ (0 < x2) → (Q (some (.int x2)) h))) : L_X11_period_26 d x1 x2 h Q := by
  refine At_iload_n (pc' := 27) iX11_period_26 rfl rfl ?_
  refine At_if_le (t := 45) (pc' := 30) iX11_period_27 (by decide) rfl (fun c27 => ?_) (fun c27 => ?_)
  · have hv := hv.2 c27
    refine At_iload_n (pc' := 46) iX11_period_45 rfl rfl ?_
    exact At_retI iX11_period_46 rfl hv
  · have hv := hv.1 c27
    refine At_aload_n (pc' := 31) iX11_period_30 rfl rfl ?_
    refine At_iload_n (pc' := 32) iX11_period_31 rfl rfl ?_
    refine At_iload_n (pc' := 33) iX11_period_32 rfl rfl ?_
    refine At_virt (pc' := 36) iX11_period_33 rfl m_11_261 rfl rfl (kdK eT (kd_59 hL)) (Nat.le_of_ble_eq_true rfl) (Nat.le_of_ble_eq_true rfl) ?_
    refine At.mono (show CallZ (d + 0) MX11_comesAgain [.ref 59, .int x2, .int x1] h _ from hv) ?_
    rintro _ h33 ⟨r33, rfl, eT33, hv⟩
    show At (d + 1) MX11_period 36 [.ref 59, .int x1, .int x2] [.int (b2i r33)] h33 Q
    refine At_zne (t := 45) (pc' := 39) iX11_period_36 (by decide) rfl (fun c36 => ?_) (fun c36 => ?_)
    · have hv := hv.1 c36
      refine At_iload_n (pc' := 46) iX11_period_45 rfl rfl ?_
      exact At_retI iX11_period_46 rfl hv
    · have hv := hv.2 c36
      refine At_iinc (v := nI 1) (L' := [.ref 59, .int x1, .int (x2 + nI 1)]) (pc' := 42) iX11_period_39 rfl rfl (Nat.le_of_ble_eq_true rfl) (by decide) rfl ?_
      refine At_goto (t := 26) iX11_period_42 (by decide) ?_
      exact hv
-- X11_pulled (loop)
def L_X11_pulled_20 (d : Nat) (x1 : Int32) (x2 : Int32) (x3 : Int32) (h : Hp) (Q : Option Value → Hp → Prop) : Prop := ∀ v4 : Value, At (d + 1) MX11_pulled 20 [.ref 59, .int x1, .int x2, .int x3, v4] [] h Q
def L_X11_pulled_33 (d : Nat) (x1 : Int32) (x2 : Int32) (x3 : Int32) (x4 : Int32) (h : Hp) (Q : Option Value → Hp → Prop) : Prop := At (d + 1) MX11_pulled 33 [.ref 59, .int x1, .int x2, .int x3, .int x4] [] h Q
set_option maxRecDepth 20000 in
theorem b_X11_pulled {d : Nat} {T : HT} (hL : Lay T) {h : Hp} (eT : h.2.2 = T) (x1 : Int32)  {Q : Option Value → Hp → Prop} (hv : ((x1 < (-1)) → (Q (some (.int (-1))) h)) ∧ (¬ (x1 < (-1)) → (L_X11_pulled_20 d x1 (((nI 1) <<< ((gI h 60 0) &&& 31)) - (nI 1)) (nI 0) h Q))) : Call (d + 1) MX11_pulled [.ref 59, .int x1] h Q := by
  show At (d + 1) MX11_pulled 0 [.ref 59, .int x1, un, un, un] [] h Q
  refine At_iload_n (pc' := 1) iX11_pulled_0 rfl rfl ?_
  refine At_iconst (v := (-1)) (pc' := 2) iX11_pulled_1 rfl (by decide) ?_
  refine At_icmp_ge (t := 7) (pc' := 5) iX11_pulled_2 (by decide) rfl (fun c2 => ?_) (fun c2 => ?_)
  · have hv := hv.2 c2
    refine At_iconst (v := nI 1) (pc' := 8) iX11_pulled_7 rfl (by decide) ?_
    refine At_aload_n (pc' := 9) iX11_pulled_8 rfl rfl ?_
    refine At_getR (pc' := 12) iX11_pulled_9 rfl f_11_7 (kdK eT (kd_59 hL)) (by decide) (rfH eT (rf_59_0 hL)) ?_
    refine At_iconst (v := nI 0) (pc' := 13) iX11_pulled_12 rfl (by decide) ?_
    refine At_iald (pc' := 14) iX11_pulled_13 rfl (kdH eT (kd_60 hL)) (by decide) (show At (d + 1) MX11_pulled 14 [.ref 59, .int x1, un, un, un] [.int (gI h 60 0), .int (nI 1)] h Q from ?_)
    refine At_ishl (pc' := 15) iX11_pulled_14 rfl ?_
    refine At_iconst (v := nI 1) (pc' := 16) iX11_pulled_15 rfl (by decide) ?_
    refine At_isub (pc' := 17) iX11_pulled_16 rfl ?_
    refine At_istore_n (L' := [.ref 59, .int x1, .int (((nI 1) <<< ((gI h 60 0) &&& 31)) - (nI 1)), un, un]) (pc' := 18) iX11_pulled_17 rfl (Nat.le_of_ble_eq_true rfl) rfl ?_
    refine At_iconst (v := nI 0) (pc' := 19) iX11_pulled_18 rfl (by decide) ?_
    refine At_istore_n (L' := [.ref 59, .int x1, .int (((nI 1) <<< ((gI h 60 0) &&& 31)) - (nI 1)), .int (nI 0), un]) (pc' := 20) iX11_pulled_19 rfl (Nat.le_of_ble_eq_true rfl) rfl ?_
    exact hv _
  · have hv := hv.1 c2
    refine At_iconst (v := (-1)) (pc' := 6) iX11_pulled_5 rfl (by decide) ?_
    exact At_retI iX11_pulled_6 rfl hv
set_option maxRecDepth 20000 in
theorem b_X11_pulled_20 {d : Nat} {T : HT} (hL : Lay T) {h : Hp} (eT : h.2.2 = T) (x1 : Int32) (x2 : Int32) (x3 : Int32)  {Q : Option Value → Hp → Prop} (hv : ((x3 < (gI h 60 0)) → (L_X11_pulled_33 d x1 x2 x3 (nI 0) h Q)) ∧ (¬ (x3 < (gI h 60 0)) → (((x1 = (-1)) → (Q (some (.int (gI h 60 0))) h)) ∧ (¬ (x1 = (-1)) → (Q (some (.int (-1))) h))))) : L_X11_pulled_20 d x1 x2 x3 h Q := by
  intro v4
  refine At_iload_n (pc' := 21) iX11_pulled_20 rfl rfl ?_
  refine At_aload_n (pc' := 22) iX11_pulled_21 rfl rfl ?_
  refine At_getR (pc' := 25) iX11_pulled_22 rfl f_11_7 (kdK eT (kd_59 hL)) (by decide) (rfH eT (rf_59_0 hL)) ?_
  refine At_iconst (v := nI 0) (pc' := 26) iX11_pulled_25 rfl (by decide) ?_
  refine At_iald (pc' := 27) iX11_pulled_26 rfl (kdH eT (kd_60 hL)) (by decide) (show At (d + 1) MX11_pulled 27 [.ref 59, .int x1, .int x2, .int x3, v4] [.int (gI h 60 0), .int x3] h Q from ?_)
  refine At_icmp_ge (t := 114) (pc' := 30) iX11_pulled_27 (by decide) rfl (fun c27 => ?_) (fun c27 => ?_)
  · have hv := hv.2 c27
    refine At_iload_n (pc' := 115) iX11_pulled_114 rfl rfl ?_
    refine At_iconst (v := (-1)) (pc' := 116) iX11_pulled_115 rfl (by decide) ?_
    refine At_icmp_ne (t := 128) (pc' := 119) iX11_pulled_116 (by decide) rfl (fun c116 => ?_) (fun c116 => ?_)
    · have hv := hv.2 c116
      refine At_iconst (v := (-1)) (pc' := 129) iX11_pulled_128 rfl (by decide) ?_
      exact At_retI iX11_pulled_129 rfl hv
    · have hv := hv.1 c116
      refine At_aload_n (pc' := 120) iX11_pulled_119 rfl rfl ?_
      refine At_getR (pc' := 123) iX11_pulled_120 rfl f_11_7 (kdK eT (kd_59 hL)) (by decide) (rfH eT (rf_59_0 hL)) ?_
      refine At_iconst (v := nI 0) (pc' := 124) iX11_pulled_123 rfl (by decide) ?_
      refine At_iald (pc' := 125) iX11_pulled_124 rfl (kdH eT (kd_60 hL)) (by decide) (show At (d + 1) MX11_pulled 125 [.ref 59, .int x1, .int x2, .int x3, v4] [.int (gI h 60 0)] h Q from ?_)
      refine At_goto (t := 129) iX11_pulled_125 (by decide) ?_
      exact At_retI iX11_pulled_129 rfl hv
  · have hv := hv.1 c27
    refine At_iconst (v := nI 0) (pc' := 31) iX11_pulled_30 rfl (by decide) ?_
    refine At_istore (L' := [.ref 59, .int x1, .int x2, .int x3, .int (nI 0)]) (pc' := 33) iX11_pulled_31 rfl (Nat.le_of_ble_eq_true rfl) rfl ?_
    exact hv
set_option maxRecDepth 20000 in
theorem b_X11_pulled_33 {d : Nat} {T : HT} (hL : Lay T) {h : Hp} (eT : h.2.2 = T) (x1 : Int32) (x2 : Int32) (x3 : Int32) (x4 : Int32)  {Q : Option Value → Hp → Prop} (hv : ((x4 < (gI h 60 0)) → (((((x2 >>> (x4 &&& 31)) &&& (nI 1)) = 0) → (L_X11_pulled_33 d x1 x2 x3 (x4 + nI 1) h Q)) ∧ (¬ (((x2 >>> (x4 &&& 31)) &&& (nI 1)) = 0) → (CallZ (d + 0) MX11_isFree [.ref 59, .int x4, .int x2] h (fun r57 h57 => h57.2.2 = T ∧ (((r57 = true) → (((x4 = (gI h57 60 0)) → (((x1 = (-1)) → (Q (some (.int x3)) h57)) ∧ (¬ (x1 = (-1)) → (Q (some (.int (-1))) h57)))) ∧ (¬ (x4 = (gI h57 60 0)) → (((x3 = x1) → (Q (some (.int x4)) h57)) ∧ (¬ (x3 = x1) → (L_X11_pulled_20 d x1 (x2 &&& (((nI 1) <<< (x4 &&& 31)) ^^^ (-1))) (x3 + nI 1) h57 Q)))))) ∧ (¬ (r57 = true) → (L_X11_pulled_33 d x1 x2 x3 (x4 + nI 1) h57 Q)))))))) ∧ (¬ (x4 < (gI h 60 0)) → (((x4 = (gI h 60 0)) → (((x1 = (-1)) → (Q (some (.int x3)) h)) ∧ (¬ (x1 = (-1)) → (Q (some (.int (-1))) h)))) ∧ (¬ (x4 = (gI h 60 0)) → (((x3 = x1) → (Q (some (.int x4)) h)) ∧ (¬ (x3 = x1) → (L_X11_pulled_20 d x1 (x2 &&& (((nI 1) <<< (x4 &&& 31)) ^^^ (-1))) (x3 + nI 1) h Q))))))) : L_X11_pulled_33 d x1 x2 x3 x4 h Q := by
  refine At_iload (pc' := 35) iX11_pulled_33 rfl rfl ?_
  refine At_aload_n (pc' := 36) iX11_pulled_35 rfl rfl ?_
  refine At_getR (pc' := 39) iX11_pulled_36 rfl f_11_7 (kdK eT (kd_59 hL)) (by decide) (rfH eT (rf_59_0 hL)) ?_
  refine At_iconst (v := nI 0) (pc' := 40) iX11_pulled_39 rfl (by decide) ?_
  refine At_iald (pc' := 41) iX11_pulled_40 rfl (kdH eT (kd_60 hL)) (by decide) (show At (d + 1) MX11_pulled 41 [.ref 59, .int x1, .int x2, .int x3, .int x4] [.int (gI h 60 0), .int x4] h Q from ?_)
  refine At_icmp_ge (t := 69) (pc' := 44) iX11_pulled_41 (by decide) rfl (fun c41 => ?_) (fun c41 => ?_)
  · have hv := hv.2 c41
    refine At_iload (pc' := 71) iX11_pulled_69 rfl rfl ?_
    refine At_aload_n (pc' := 72) iX11_pulled_71 rfl rfl ?_
    refine At_getR (pc' := 75) iX11_pulled_72 rfl f_11_7 (kdK eT (kd_59 hL)) (by decide) (rfH eT (rf_59_0 hL)) ?_
    refine At_iconst (v := nI 0) (pc' := 76) iX11_pulled_75 rfl (by decide) ?_
    refine At_iald (pc' := 77) iX11_pulled_76 rfl (kdH eT (kd_60 hL)) (by decide) (show At (d + 1) MX11_pulled 77 [.ref 59, .int x1, .int x2, .int x3, .int x4] [.int (gI h 60 0), .int x4] h Q from ?_)
    refine At_icmp_ne (t := 91) (pc' := 80) iX11_pulled_77 (by decide) rfl (fun c77 => ?_) (fun c77 => ?_)
    · have hv := hv.2 c77
      refine At_iload_n (pc' := 92) iX11_pulled_91 rfl rfl ?_
      refine At_iload_n (pc' := 93) iX11_pulled_92 rfl rfl ?_
      refine At_icmp_ne (t := 99) (pc' := 96) iX11_pulled_93 (by decide) rfl (fun c93 => ?_) (fun c93 => ?_)
      · have hv := hv.2 c93
        refine At_iload_n (pc' := 100) iX11_pulled_99 rfl rfl ?_
        refine At_iconst (v := nI 1) (pc' := 101) iX11_pulled_100 rfl (by decide) ?_
        refine At_iload (pc' := 103) iX11_pulled_101 rfl rfl ?_
        refine At_ishl (pc' := 104) iX11_pulled_103 rfl ?_
        refine At_iconst (v := (-1)) (pc' := 105) iX11_pulled_104 rfl (by decide) ?_
        refine At_ixor (pc' := 106) iX11_pulled_105 rfl ?_
        refine At_iand (pc' := 107) iX11_pulled_106 rfl ?_
        refine At_istore_n (L' := [.ref 59, .int x1, .int (x2 &&& (((nI 1) <<< (x4 &&& 31)) ^^^ (-1))), .int x3, .int x4]) (pc' := 108) iX11_pulled_107 rfl (Nat.le_of_ble_eq_true rfl) rfl ?_
        refine At_iinc (v := nI 1) (L' := [.ref 59, .int x1, .int (x2 &&& (((nI 1) <<< (x4 &&& 31)) ^^^ (-1))), .int (x3 + nI 1), .int x4]) (pc' := 111) iX11_pulled_108 rfl rfl (Nat.le_of_ble_eq_true rfl) (by decide) rfl ?_
        refine At_goto (t := 20) iX11_pulled_111 (by decide) ?_
        exact hv _
      · have hv := hv.1 c93
        refine At_iload (pc' := 98) iX11_pulled_96 rfl rfl ?_
        exact At_retI iX11_pulled_98 rfl hv
    · have hv := hv.1 c77
      refine At_iload_n (pc' := 81) iX11_pulled_80 rfl rfl ?_
      refine At_iconst (v := (-1)) (pc' := 82) iX11_pulled_81 rfl (by decide) ?_
      refine At_icmp_ne (t := 89) (pc' := 85) iX11_pulled_82 (by decide) rfl (fun c82 => ?_) (fun c82 => ?_)
      · have hv := hv.2 c82
        refine At_iconst (v := (-1)) (pc' := 90) iX11_pulled_89 rfl (by decide) ?_
        exact At_retI iX11_pulled_90 rfl hv
      · have hv := hv.1 c82
        refine At_iload_n (pc' := 86) iX11_pulled_85 rfl rfl ?_
        refine At_goto (t := 90) iX11_pulled_86 (by decide) ?_
        exact At_retI iX11_pulled_90 rfl hv
  · have hv := hv.1 c41
    refine At_iload_n (pc' := 45) iX11_pulled_44 rfl rfl ?_
    refine At_iload (pc' := 47) iX11_pulled_45 rfl rfl ?_
    refine At_ishr (pc' := 48) iX11_pulled_47 rfl ?_
    refine At_iconst (v := nI 1) (pc' := 49) iX11_pulled_48 rfl (by decide) ?_
    refine At_iand (pc' := 50) iX11_pulled_49 rfl ?_
    refine At_if_eq (t := 63) (pc' := 53) iX11_pulled_50 (by decide) rfl (fun c50 => ?_) (fun c50 => ?_)
    · have hv := hv.1 c50
      refine At_iinc (v := nI 1) (L' := [.ref 59, .int x1, .int x2, .int x3, .int (x4 + nI 1)]) (pc' := 66) iX11_pulled_63 rfl rfl (Nat.le_of_ble_eq_true rfl) (by decide) rfl ?_
      refine At_goto (t := 33) iX11_pulled_66 (by decide) ?_
      exact hv
    · have hv := hv.2 c50
      refine At_aload_n (pc' := 54) iX11_pulled_53 rfl rfl ?_
      refine At_iload (pc' := 56) iX11_pulled_54 rfl rfl ?_
      refine At_iload_n (pc' := 57) iX11_pulled_56 rfl rfl ?_
      refine At_virt (pc' := 60) iX11_pulled_57 rfl m_11_270 rfl rfl (kdK eT (kd_59 hL)) (Nat.le_of_ble_eq_true rfl) (Nat.le_of_ble_eq_true rfl) ?_
      refine At.mono (show CallZ (d + 0) MX11_isFree [.ref 59, .int x4, .int x2] h _ from hv) ?_
      rintro _ h57 ⟨r57, rfl, eT57, hv⟩
      show At (d + 1) MX11_pulled 60 [.ref 59, .int x1, .int x2, .int x3, .int x4] [.int (b2i r57)] h57 Q
      refine At_zne (t := 69) (pc' := 63) iX11_pulled_60 (by decide) rfl (fun c60 => ?_) (fun c60 => ?_)
      · have hv := hv.1 c60
        refine At_iload (pc' := 71) iX11_pulled_69 rfl rfl ?_
        refine At_aload_n (pc' := 72) iX11_pulled_71 rfl rfl ?_
        refine At_getR (pc' := 75) iX11_pulled_72 rfl f_11_7 (kdK eT57 (kd_59 hL)) (by decide) (rfH eT57 (rf_59_0 hL)) ?_
        refine At_iconst (v := nI 0) (pc' := 76) iX11_pulled_75 rfl (by decide) ?_
        refine At_iald (pc' := 77) iX11_pulled_76 rfl (kdH eT57 (kd_60 hL)) (by decide) (show At (d + 1) MX11_pulled 77 [.ref 59, .int x1, .int x2, .int x3, .int x4] [.int (gI h57 60 0), .int x4] h57 Q from ?_)
        refine At_icmp_ne (t := 91) (pc' := 80) iX11_pulled_77 (by decide) rfl (fun c77 => ?_) (fun c77 => ?_)
        · have hv := hv.2 c77
          refine At_iload_n (pc' := 92) iX11_pulled_91 rfl rfl ?_
          refine At_iload_n (pc' := 93) iX11_pulled_92 rfl rfl ?_
          refine At_icmp_ne (t := 99) (pc' := 96) iX11_pulled_93 (by decide) rfl (fun c93 => ?_) (fun c93 => ?_)
          · have hv := hv.2 c93
            refine At_iload_n (pc' := 100) iX11_pulled_99 rfl rfl ?_
            refine At_iconst (v := nI 1) (pc' := 101) iX11_pulled_100 rfl (by decide) ?_
            refine At_iload (pc' := 103) iX11_pulled_101 rfl rfl ?_
            refine At_ishl (pc' := 104) iX11_pulled_103 rfl ?_
            refine At_iconst (v := (-1)) (pc' := 105) iX11_pulled_104 rfl (by decide) ?_
            refine At_ixor (pc' := 106) iX11_pulled_105 rfl ?_
            refine At_iand (pc' := 107) iX11_pulled_106 rfl ?_
            refine At_istore_n (L' := [.ref 59, .int x1, .int (x2 &&& (((nI 1) <<< (x4 &&& 31)) ^^^ (-1))), .int x3, .int x4]) (pc' := 108) iX11_pulled_107 rfl (Nat.le_of_ble_eq_true rfl) rfl ?_
            refine At_iinc (v := nI 1) (L' := [.ref 59, .int x1, .int (x2 &&& (((nI 1) <<< (x4 &&& 31)) ^^^ (-1))), .int (x3 + nI 1), .int x4]) (pc' := 111) iX11_pulled_108 rfl rfl (Nat.le_of_ble_eq_true rfl) (by decide) rfl ?_
            refine At_goto (t := 20) iX11_pulled_111 (by decide) ?_
            exact hv _
          · have hv := hv.1 c93
            refine At_iload (pc' := 98) iX11_pulled_96 rfl rfl ?_
            exact At_retI iX11_pulled_98 rfl hv
        · have hv := hv.1 c77
          refine At_iload_n (pc' := 81) iX11_pulled_80 rfl rfl ?_
          refine At_iconst (v := (-1)) (pc' := 82) iX11_pulled_81 rfl (by decide) ?_
          refine At_icmp_ne (t := 89) (pc' := 85) iX11_pulled_82 (by decide) rfl (fun c82 => ?_) (fun c82 => ?_)
          · have hv := hv.2 c82
            refine At_iconst (v := (-1)) (pc' := 90) iX11_pulled_89 rfl (by decide) ?_
            exact At_retI iX11_pulled_90 rfl hv
          · have hv := hv.1 c82
            refine At_iload_n (pc' := 86) iX11_pulled_85 rfl rfl ?_
            refine At_goto (t := 90) iX11_pulled_86 (by decide) ?_
            exact At_retI iX11_pulled_90 rfl hv
      · have hv := hv.2 c60
        refine At_iinc (v := nI 1) (L' := [.ref 59, .int x1, .int x2, .int x3, .int (x4 + nI 1)]) (pc' := 66) iX11_pulled_63 rfl rfl (Nat.le_of_ble_eq_true rfl) (by decide) rfl ?_
        refine At_goto (t := 33) iX11_pulled_66 (by decide) ?_
        exact hv
-- X11_ring (calls X11_slotOf)
def L_X11_ring_8 (d : Nat) (x1 : Int32) (x2 : Int32) (x3 : Int32) (h : Hp) (Q : Option Value → Hp → Prop) : Prop := At (d + 1) MX11_ring 8 [.ref 59, .int x1, .int x2, .int x3] [] h Q
set_option maxRecDepth 20000 in
theorem b_X11_ring {d : Nat} {T : HT} (hL : Lay T) {h : Hp} (eT : h.2.2 = T) (x1 : Int32)  {Q : Option Value → Hp → Prop} (hv : CallI (d + 0) MX11_slotOf [.ref 59, .int x1] h (fun r4 h4 => h4.2.2 = T ∧ (L_X11_ring_8 d x1 (nI 1) r4 h4 Q))) : Call (d + 1) MX11_ring [.ref 59, .int x1] h Q := by
  show At (d + 1) MX11_ring 0 [.ref 59, .int x1, un, un] [] h Q
  refine At_iconst (v := nI 1) (pc' := 1) iX11_ring_0 rfl (by decide) ?_
  refine At_istore_n (L' := [.ref 59, .int x1, .int (nI 1), un]) (pc' := 2) iX11_ring_1 rfl (Nat.le_of_ble_eq_true rfl) rfl ?_
  refine At_aload_n (pc' := 3) iX11_ring_2 rfl rfl ?_
  refine At_iload_n (pc' := 4) iX11_ring_3 rfl rfl ?_
  refine At_virt (pc' := 7) iX11_ring_4 rfl m_11_217 rfl rfl (kdK eT (kd_59 hL)) (Nat.le_of_ble_eq_true rfl) (Nat.le_of_ble_eq_true rfl) ?_
  refine At.mono (show CallI (d + 0) MX11_slotOf [.ref 59, .int x1] h _ from hv) ?_
  rintro _ h4 ⟨r4, rfl, eT4, hv⟩
  show At (d + 1) MX11_ring 7 [.ref 59, .int x1, .int (nI 1), un] [.int r4] h4 Q
  refine At_istore_n (L' := [.ref 59, .int x1, .int (nI 1), .int r4]) (pc' := 8) iX11_ring_7 rfl (Nat.le_of_ble_eq_true rfl) rfl ?_
  exact hv
set_option maxRecDepth 20000 in
theorem b_X11_ring_8 {d : Nat} {T : HT} (hL : Lay T) {h : Hp} (eT : h.2.2 = T) (x1 : Int32) (x2 : Int32) (x3 : Int32)  {Q : Option Value → Hp → Prop} (hv : ((x3 = x1) → (Q (some (.int x2)) h)) ∧ (¬ (x3 = x1) → (CallI (d + 0) MX11_slotOf [.ref 59, .int x3] h (fun r18 h18 => h18.2.2 = T ∧ (L_X11_ring_8 d x1 (x2 + nI 1) r18 h18 Q))))) : L_X11_ring_8 d x1 x2 x3 h Q := by
  refine At_iload_n (pc' := 9) iX11_ring_8 rfl rfl ?_
  refine At_iload_n (pc' := 10) iX11_ring_9 rfl rfl ?_
  refine At_icmp_eq (t := 25) (pc' := 13) iX11_ring_10 (by decide) rfl (fun c10 => ?_) (fun c10 => ?_)
  · have hv := hv.1 c10
    refine At_iload_n (pc' := 26) iX11_ring_25 rfl rfl ?_
    exact At_retI iX11_ring_26 rfl hv
  · have hv := hv.2 c10
    refine At_iinc (v := nI 1) (L' := [.ref 59, .int x1, .int (x2 + nI 1), .int x3]) (pc' := 16) iX11_ring_13 rfl rfl (Nat.le_of_ble_eq_true rfl) (by decide) rfl ?_
    refine At_aload_n (pc' := 17) iX11_ring_16 rfl rfl ?_
    refine At_iload_n (pc' := 18) iX11_ring_17 rfl rfl ?_
    refine At_virt (pc' := 21) iX11_ring_18 rfl m_11_217 rfl rfl (kdK eT (kd_59 hL)) (Nat.le_of_ble_eq_true rfl) (Nat.le_of_ble_eq_true rfl) ?_
    refine At.mono (show CallI (d + 0) MX11_slotOf [.ref 59, .int x3] h _ from hv) ?_
    rintro _ h18 ⟨r18, rfl, eT18, hv⟩
    show At (d + 1) MX11_ring 21 [.ref 59, .int x1, .int (x2 + nI 1), .int x3] [.int r18] h18 Q
    refine At_istore_n (L' := [.ref 59, .int x1, .int (x2 + nI 1), .int r18]) (pc' := 22) iX11_ring_21 rfl (Nat.le_of_ble_eq_true rfl) rfl ?_
    refine At_goto (t := 8) iX11_ring_22 (by decide) ?_
    exact hv
-- X11_stool (calls X11_begins)
set_option maxRecDepth 20000 in
theorem b_X11_stool {d : Nat} {T : HT} (hL : Lay T) {h : Hp} (eT : h.2.2 = T) (x1 : Int32)  {Q : Option Value → Hp → Prop} (hv : (((r_X11_isIn x1 (nI 4) (nI 16)) = true) → (CallV (d + 0) MX11_begins [.ref 59, .int x1] h (fun h14 => h14.2.2 = T ∧ (Q (some (.int (b2i true))) h14)))) ∧ (¬ ((r_X11_isIn x1 (nI 4) (nI 16)) = true) → (Q (some (.int (b2i false))) h))) : Call (d + 1) MX11_stool [.ref 59, .int x1] h Q := by
  show At (d + 1) MX11_stool 0 [.ref 59, .int x1] [] h Q
  refine At_iload_n (pc' := 1) iX11_stool_0 rfl rfl ?_
  refine At_iconst (v := nI 4) (pc' := 2) iX11_stool_1 rfl (by decide) ?_
  refine At_bipush (v := nI 16) (pc' := 4) iX11_stool_2 rfl (by decide) ?_
  refine At_stat (pc' := 7) iX11_stool_4 rfl m_11_72 rfl rfl (Nat.le_of_ble_eq_true rfl) (Nat.le_of_ble_eq_true rfl) (Nat.le_of_ble_eq_true rfl) ?_
  refine c_X11_isIn (h := h) x1 (nI 4) (nI 16)   (show At (d + 1) MX11_stool 7 [.ref 59, .int x1] [.int (b2i (r_X11_isIn x1 (nI 4) (nI 16)))] h Q from ?_)
  refine At_zne (t := 12) (pc' := 10) iX11_stool_7 (by decide) rfl (fun c7 => ?_) (fun c7 => ?_)
  · have hv := hv.1 c7
    refine At_aload_n (pc' := 13) iX11_stool_12 rfl rfl ?_
    refine At_iload_n (pc' := 14) iX11_stool_13 rfl rfl ?_
    refine At_virt (pc' := 17) iX11_stool_14 rfl m_11_65 rfl rfl (kdK eT (kd_59 hL)) (Nat.le_of_ble_eq_true rfl) (Nat.le_of_ble_eq_true rfl) ?_
    refine At.mono (show CallV (d + 0) MX11_begins [.ref 59, .int x1] h _ from hv) ?_
    rintro _ h14 ⟨rfl, eT14, hv⟩
    show At (d + 1) MX11_stool 17 [.ref 59, .int x1] [] h14 Q
    refine At_iconst (v := nI 1) (pc' := 18) iX11_stool_17 rfl (by decide) ?_
    exact At_retT iX11_stool_18 rfl hv
  · have hv := hv.2 c7
    refine At_iconst (v := nI 0) (pc' := 11) iX11_stool_10 rfl (by decide) ?_
    exact At_retF iX11_stool_11 rfl hv
-- X11_word (calls X11_is)
set_option maxRecDepth 20000 in
theorem b_X11_word {d : Nat} {T : HT} (hL : Lay T) {h : Hp} (eT : h.2.2 = T)   {Q : Option Value → Hp → Prop} (hv : CallZ (d + 0) MX11_is [.ref 59, .ref (1000000 + 0)] h (fun r3 h3 => h3.2.2 = T ∧ (((r3 = true) → (Q (some (.int (nI 3))) h3)) ∧ (¬ (r3 = true) → (CallZ (d + 0) MX11_is [.ref 59, .ref (1000000 + 1)] h3 (fun r14 h14 => h14.2.2 = T ∧ (((r14 = true) → (Q (some (.int (nI 4))) h14)) ∧ (¬ (r14 = true) → (CallZ (d + 0) MX11_is [.ref 59, .ref (1000000 + 2)] h14 (fun r25 h25 => h25.2.2 = T ∧ (((r25 = true) → (Q (some (.int (nI 5))) h25)) ∧ (¬ (r25 = true) → (CallZ (d + 0) MX11_is [.ref 59, .ref (1000000 + 3)] h25 (fun r36 h36 => h36.2.2 = T ∧ (((r36 = true) → (Q (some (.int (nI 6))) h36)) ∧ (¬ (r36 = true) → (CallZ (d + 0) MX11_is [.ref 59, .ref (1000000 + 4)] h36 (fun r48 h48 => h48.2.2 = T ∧ (((r48 = true) → (Q (some (.int (nI 7))) h48)) ∧ (¬ (r48 = true) → (CallZ (d + 0) MX11_is [.ref 59, .ref (1000000 + 5)] h48 (fun r60 h60 => h60.2.2 = T ∧ (((r60 = true) → (Q (some (.int (nI 8))) h60)) ∧ (¬ (r60 = true) → (Q (some (.int (nI 1))) h60))))))))))))))))))))))))) : Call (d + 1) MX11_word [.ref 59] h Q := by
  show At (d + 1) MX11_word 0 [.ref 59] [] h Q
  refine At_aload_n (pc' := 1) iX11_word_0 rfl rfl ?_
  refine At_ldcS (v := 0) (pc' := 3) iX11_word_1 rfl rfl rfl ?_
  refine At_virt (pc' := 6) iX11_word_3 rfl m_11_103 rfl rfl (kdK eT (kd_59 hL)) (Nat.le_of_ble_eq_true rfl) (Nat.le_of_ble_eq_true rfl) ?_
  refine At.mono (show CallZ (d + 0) MX11_is [.ref 59, .ref (1000000 + 0)] h _ from hv) ?_
  rintro _ h3 ⟨r3, rfl, eT3, hv⟩
  show At (d + 1) MX11_word 6 [.ref 59] [.int (b2i r3)] h3 Q
  refine At_zeq (t := 11) (pc' := 9) iX11_word_6 (by decide) rfl (fun c6 => ?_) (fun c6 => ?_)
  · have hv := hv.2 c6
    refine At_aload_n (pc' := 12) iX11_word_11 rfl rfl ?_
    refine At_ldcS (v := 1) (pc' := 14) iX11_word_12 rfl rfl rfl ?_
    refine At_virt (pc' := 17) iX11_word_14 rfl m_11_103 rfl rfl (kdK eT3 (kd_59 hL)) (Nat.le_of_ble_eq_true rfl) (Nat.le_of_ble_eq_true rfl) ?_
    refine At.mono (show CallZ (d + 0) MX11_is [.ref 59, .ref (1000000 + 1)] h3 _ from hv) ?_
    rintro _ h14 ⟨r14, rfl, eT14, hv⟩
    show At (d + 1) MX11_word 17 [.ref 59] [.int (b2i r14)] h14 Q
    refine At_zeq (t := 22) (pc' := 20) iX11_word_17 (by decide) rfl (fun c17 => ?_) (fun c17 => ?_)
    · have hv := hv.2 c17
      refine At_aload_n (pc' := 23) iX11_word_22 rfl rfl ?_
      refine At_ldcS (v := 2) (pc' := 25) iX11_word_23 rfl rfl rfl ?_
      refine At_virt (pc' := 28) iX11_word_25 rfl m_11_103 rfl rfl (kdK eT14 (kd_59 hL)) (Nat.le_of_ble_eq_true rfl) (Nat.le_of_ble_eq_true rfl) ?_
      refine At.mono (show CallZ (d + 0) MX11_is [.ref 59, .ref (1000000 + 2)] h14 _ from hv) ?_
      rintro _ h25 ⟨r25, rfl, eT25, hv⟩
      show At (d + 1) MX11_word 28 [.ref 59] [.int (b2i r25)] h25 Q
      refine At_zeq (t := 33) (pc' := 31) iX11_word_28 (by decide) rfl (fun c28 => ?_) (fun c28 => ?_)
      · have hv := hv.2 c28
        refine At_aload_n (pc' := 34) iX11_word_33 rfl rfl ?_
        refine At_ldcS (v := 3) (pc' := 36) iX11_word_34 rfl rfl rfl ?_
        refine At_virt (pc' := 39) iX11_word_36 rfl m_11_103 rfl rfl (kdK eT25 (kd_59 hL)) (Nat.le_of_ble_eq_true rfl) (Nat.le_of_ble_eq_true rfl) ?_
        refine At.mono (show CallZ (d + 0) MX11_is [.ref 59, .ref (1000000 + 3)] h25 _ from hv) ?_
        rintro _ h36 ⟨r36, rfl, eT36, hv⟩
        show At (d + 1) MX11_word 39 [.ref 59] [.int (b2i r36)] h36 Q
        refine At_zeq (t := 45) (pc' := 42) iX11_word_39 (by decide) rfl (fun c39 => ?_) (fun c39 => ?_)
        · have hv := hv.2 c39
          refine At_aload_n (pc' := 46) iX11_word_45 rfl rfl ?_
          refine At_ldcS (v := 4) (pc' := 48) iX11_word_46 rfl rfl rfl ?_
          refine At_virt (pc' := 51) iX11_word_48 rfl m_11_103 rfl rfl (kdK eT36 (kd_59 hL)) (Nat.le_of_ble_eq_true rfl) (Nat.le_of_ble_eq_true rfl) ?_
          refine At.mono (show CallZ (d + 0) MX11_is [.ref 59, .ref (1000000 + 4)] h36 _ from hv) ?_
          rintro _ h48 ⟨r48, rfl, eT48, hv⟩
          show At (d + 1) MX11_word 51 [.ref 59] [.int (b2i r48)] h48 Q
          refine At_zeq (t := 57) (pc' := 54) iX11_word_51 (by decide) rfl (fun c51 => ?_) (fun c51 => ?_)
          · have hv := hv.2 c51
            refine At_aload_n (pc' := 58) iX11_word_57 rfl rfl ?_
            refine At_ldcS (v := 5) (pc' := 60) iX11_word_58 rfl rfl rfl ?_
            refine At_virt (pc' := 63) iX11_word_60 rfl m_11_103 rfl rfl (kdK eT48 (kd_59 hL)) (Nat.le_of_ble_eq_true rfl) (Nat.le_of_ble_eq_true rfl) ?_
            refine At.mono (show CallZ (d + 0) MX11_is [.ref 59, .ref (1000000 + 5)] h48 _ from hv) ?_
            rintro _ h60 ⟨r60, rfl, eT60, hv⟩
            show At (d + 1) MX11_word 63 [.ref 59] [.int (b2i r60)] h60 Q
            refine At_zeq (t := 71) (pc' := 66) iX11_word_63 (by decide) rfl (fun c63 => ?_) (fun c63 => ?_)
            · have hv := hv.2 c63
              refine At_iconst (v := nI 1) (pc' := 72) iX11_word_71 rfl (by decide) ?_
              exact At_retI iX11_word_72 rfl hv
            · have hv := hv.1 c63
              refine At_bipush (v := nI 8) (pc' := 68) iX11_word_66 rfl (by decide) ?_
              refine At_goto (t := 72) iX11_word_68 (by decide) ?_
              exact At_retI iX11_word_72 rfl hv
          · have hv := hv.1 c51
            refine At_bipush (v := nI 7) (pc' := 56) iX11_word_54 rfl (by decide) ?_
            exact At_retI iX11_word_56 rfl hv
        · have hv := hv.1 c39
          refine At_bipush (v := nI 6) (pc' := 44) iX11_word_42 rfl (by decide) ?_
          exact At_retI iX11_word_44 rfl hv
      · have hv := hv.1 c28
        refine At_iconst (v := nI 5) (pc' := 32) iX11_word_31 rfl (by decide) ?_
        exact At_retI iX11_word_32 rfl hv
    · have hv := hv.1 c17
      refine At_iconst (v := nI 4) (pc' := 21) iX11_word_20 rfl (by decide) ?_
      exact At_retI iX11_word_21 rfl hv
  · have hv := hv.1 c6
    refine At_iconst (v := nI 3) (pc' := 10) iX11_word_9 rfl (by decide) ?_
    exact At_retI iX11_word_10 rfl hv
-- X0_earliest (loop)
def L_X0_earliest_6 (d : Nat) (x1 : Nat) (x2 : Int32) (x3 : Int32) (x4 : Int32) (x5 : Int32) (h : Hp) (Q : Option Value → Hp → Prop) : Prop := ∀ v6 : Value, At (d + 2) MX0_earliest 6 [.ref 50, .ref x1, .int x2, .int x3, .int x4, .int x5, v6] [] h Q
def L_X0_earliest_78 (d : Nat) (x1 : Nat) (x3 : Int32) (x4 : Int32) (h : Hp) (Q : Option Value → Hp → Prop) : Prop := ∀ v1 v2 v5 v6 : Value, At (d + 2) MX0_earliest 78 [.ref 50, v1, v2, .int x3, .int x4, v5, v6] [] h Q
set_option maxRecDepth 20000 in
theorem b_X0_earliest {d : Nat} {T : HT} (hL : Lay T) {h : Hp} (eT : h.2.2 = T) (x1 : Nat) (x2 : Int32) (x3 : Int32) (hA1 : IsX7 T x1) {Q : Option Value → Hp → Prop} (hv : L_X0_earliest_6 d x1 x2 x3 (nI 1) (nI 0) h Q) : Call (d + 2) MX0_earliest [.ref 50, .ref x1, .int x2, .int x3] h Q := by
  show At (d + 2) MX0_earliest 0 [.ref 50, .ref x1, .int x2, .int x3, un, un, un] [] h Q
  refine At_iconst (v := nI 1) (pc' := 1) iX0_earliest_0 rfl (by decide) ?_
  refine At_istore (L' := [.ref 50, .ref x1, .int x2, .int x3, .int (nI 1), un, un]) (pc' := 3) iX0_earliest_1 rfl (Nat.le_of_ble_eq_true rfl) rfl ?_
  refine At_iconst (v := nI 0) (pc' := 4) iX0_earliest_3 rfl (by decide) ?_
  refine At_istore (L' := [.ref 50, .ref x1, .int x2, .int x3, .int (nI 1), .int (nI 0), un]) (pc' := 6) iX0_earliest_4 rfl (Nat.le_of_ble_eq_true rfl) rfl ?_
  exact hv _
set_option maxRecDepth 20000 in
theorem b_X0_earliest_6 {d : Nat} {T : HT} (hL : Lay T) {h : Hp} (eT : h.2.2 = T) (x1 : Nat) (x2 : Int32) (x3 : Int32) (x4 : Int32) (x5 : Int32) (hA1 : IsX7 T x1) {Q : Option Value → Hp → Prop} (hv : ((x5 < x2) → ((inB x5 200 = true) ∧ ((((r_X4_isTurn (gI h (x1 + 1) x5.toNatClampNeg)) = true) → (L_X0_earliest_6 d x1 x2 x3 x4 (x5 + nI 1) h Q)) ∧ (¬ ((r_X4_isTurn (gI h (x1 + 1) x5.toNatClampNeg)) = true) → ((inB x2 200 = true) ∧ ((inB x5 200 = true) ∧ ((((r_X4_cross (gI h (x1 + 1) x2.toNatClampNeg) (gI h (x1 + 1) x5.toNatClampNeg)) = true) → ((inB x5 200 = true) ∧ (L_X0_earliest_6 d x1 x2 x3 (if x4 < ((gI h 51 x5.toNatClampNeg) + (nI 1)) then (gI h 51 x5.toNatClampNeg) + (nI 1) else x4) (x5 + nI 1) h Q))) ∧ (¬ ((r_X4_cross (gI h (x1 + 1) x2.toNatClampNeg) (gI h (x1 + 1) x5.toNatClampNeg)) = true) → (L_X0_earliest_6 d x1 x2 x3 x4 (x5 + nI 1) h Q))))))))) ∧ (¬ (x5 < x2) → (L_X0_earliest_78 d x1 x3 x4 h Q))) : L_X0_earliest_6 d x1 x2 x3 x4 x5 h Q := by
  intro v6
  refine At_iload (pc' := 8) iX0_earliest_6 rfl rfl ?_
  refine At_iload_n (pc' := 9) iX0_earliest_8 rfl rfl ?_
  refine At_icmp_ge (t := 78) (pc' := 12) iX0_earliest_9 (by decide) rfl (fun c9 => ?_) (fun c9 => ?_)
  · have hv := hv.2 c9
    exact hv _ _ _ _
  · have hv := hv.1 c9
    refine At_aload_n (pc' := 13) iX0_earliest_12 rfl rfl ?_
    refine At_getR (pc' := 16) iX0_earliest_13 rfl f_0_30 (kdK eT (X7_k0 hA1)) (by decide) (rfH eT (X7_r1 hA1)) ?_
    refine At_iload (pc' := 18) iX0_earliest_16 rfl rfl ?_
    obtain ⟨hn1, hv⟩ := hv
    refine At_iald (pc' := 19) iX0_earliest_18 rfl (kdH eT (X7_k1 hA1)) hn1 (show At (d + 2) MX0_earliest 19 [.ref 50, .ref x1, .int x2, .int x3, .int x4, .int x5, v6] [.int (gI h (x1 + 1) x5.toNatClampNeg)] h Q from ?_)
    refine At_stat (pc' := 22) iX0_earliest_19 rfl m_0_33 rfl rfl (Nat.le_of_ble_eq_true rfl) (Nat.le_of_ble_eq_true rfl) (Nat.le_of_ble_eq_true rfl) ?_
    refine c_X4_isTurn (h := h) (gI h (x1 + 1) x5.toNatClampNeg)   (show At (d + 2) MX0_earliest 22 [.ref 50, .ref x1, .int x2, .int x3, .int x4, .int x5, v6] [.int (b2i (r_X4_isTurn (gI h (x1 + 1) x5.toNatClampNeg)))] h Q from ?_)
    refine At_zne (t := 48) (pc' := 25) iX0_earliest_22 (by decide) rfl (fun c22 => ?_) (fun c22 => ?_)
    · have hv := hv.1 c22
      refine At_iconst (v := nI 0) (pc' := 49) iX0_earliest_48 rfl (by decide) ?_
      refine At_istore (L' := [.ref 50, .ref x1, .int x2, .int x3, .int x4, .int x5, .int (nI 0)]) (pc' := 51) iX0_earliest_49 rfl (Nat.le_of_ble_eq_true rfl) rfl ?_
      refine At_iload (pc' := 53) iX0_earliest_51 rfl rfl ?_
      refine At_if_eq (t := 72) (pc' := 56) iX0_earliest_53 (by decide) rfl (fun c53 => ?_) (fun c53 => absurd c53 (by decide))
      refine At_iinc (v := nI 1) (L' := [.ref 50, .ref x1, .int x2, .int x3, .int x4, .int (x5 + nI 1), .int (nI 0)]) (pc' := 75) iX0_earliest_72 rfl rfl (Nat.le_of_ble_eq_true rfl) (by decide) rfl ?_
      refine At_goto (t := 6) iX0_earliest_75 (by decide) ?_
      exact hv _
    · have hv := hv.2 c22
      refine At_aload_n (pc' := 26) iX0_earliest_25 rfl rfl ?_
      refine At_getR (pc' := 29) iX0_earliest_26 rfl f_0_30 (kdK eT (X7_k0 hA1)) (by decide) (rfH eT (X7_r1 hA1)) ?_
      refine At_iload_n (pc' := 30) iX0_earliest_29 rfl rfl ?_
      obtain ⟨hn2, hv⟩ := hv
      refine At_iald (pc' := 31) iX0_earliest_30 rfl (kdH eT (X7_k1 hA1)) hn2 (show At (d + 2) MX0_earliest 31 [.ref 50, .ref x1, .int x2, .int x3, .int x4, .int x5, v6] [.int (gI h (x1 + 1) x2.toNatClampNeg)] h Q from ?_)
      refine At_aload_n (pc' := 32) iX0_earliest_31 rfl rfl ?_
      refine At_getR (pc' := 35) iX0_earliest_32 rfl f_0_30 (kdK eT (X7_k0 hA1)) (by decide) (rfH eT (X7_r1 hA1)) ?_
      refine At_iload (pc' := 37) iX0_earliest_35 rfl rfl ?_
      obtain ⟨hn3, hv⟩ := hv
      refine At_iald (pc' := 38) iX0_earliest_37 rfl (kdH eT (X7_k1 hA1)) hn3 (show At (d + 2) MX0_earliest 38 [.ref 50, .ref x1, .int x2, .int x3, .int x4, .int x5, v6] [.int (gI h (x1 + 1) x5.toNatClampNeg), .int (gI h (x1 + 1) x2.toNatClampNeg)] h Q from ?_)
      refine At_stat (pc' := 41) iX0_earliest_38 rfl m_0_49 rfl rfl (Nat.le_of_ble_eq_true rfl) (Nat.le_of_ble_eq_true rfl) (Nat.le_of_ble_eq_true rfl) ?_
      refine c_X4_cross (h := h) (gI h (x1 + 1) x2.toNatClampNeg) (gI h (x1 + 1) x5.toNatClampNeg)   (show At (d + 2) MX0_earliest 41 [.ref 50, .ref x1, .int x2, .int x3, .int x4, .int x5, v6] [.int (b2i (r_X4_cross (gI h (x1 + 1) x2.toNatClampNeg) (gI h (x1 + 1) x5.toNatClampNeg)))] h Q from ?_)
      refine At_zeq (t := 48) (pc' := 44) iX0_earliest_41 (by decide) rfl (fun c41 => ?_) (fun c41 => ?_)
      · have hv := hv.2 c41
        refine At_iconst (v := nI 0) (pc' := 49) iX0_earliest_48 rfl (by decide) ?_
        refine At_istore (L' := [.ref 50, .ref x1, .int x2, .int x3, .int x4, .int x5, .int (nI 0)]) (pc' := 51) iX0_earliest_49 rfl (Nat.le_of_ble_eq_true rfl) rfl ?_
        refine At_iload (pc' := 53) iX0_earliest_51 rfl rfl ?_
        refine At_if_eq (t := 72) (pc' := 56) iX0_earliest_53 (by decide) rfl (fun c53 => ?_) (fun c53 => absurd c53 (by decide))
        refine At_iinc (v := nI 1) (L' := [.ref 50, .ref x1, .int x2, .int x3, .int x4, .int (x5 + nI 1), .int (nI 0)]) (pc' := 75) iX0_earliest_72 rfl rfl (Nat.le_of_ble_eq_true rfl) (by decide) rfl ?_
        refine At_goto (t := 6) iX0_earliest_75 (by decide) ?_
        exact hv _
      · have hv := hv.1 c41
        refine At_iconst (v := nI 1) (pc' := 45) iX0_earliest_44 rfl (by decide) ?_
        refine At_goto (t := 49) iX0_earliest_45 (by decide) ?_
        refine At_istore (L' := [.ref 50, .ref x1, .int x2, .int x3, .int x4, .int x5, .int (nI 1)]) (pc' := 51) iX0_earliest_49 rfl (Nat.le_of_ble_eq_true rfl) rfl ?_
        refine At_iload (pc' := 53) iX0_earliest_51 rfl rfl ?_
        refine At_if_eq (t := 72) (pc' := 56) iX0_earliest_53 (by decide) rfl (fun c53 => absurd c53 (by decide)) (fun c53 => ?_)
        refine At_iload (pc' := 58) iX0_earliest_56 rfl rfl ?_
        refine At_aload_n (pc' := 59) iX0_earliest_58 rfl rfl ?_
        refine At_getR (pc' := 62) iX0_earliest_59 rfl f_0_9 (kdK eT (kd_50 hL)) (by decide) (rfH eT (rf_50_0 hL)) ?_
        refine At_iload (pc' := 64) iX0_earliest_62 rfl rfl ?_
        obtain ⟨hn4, hv⟩ := hv
        refine At_iald (pc' := 65) iX0_earliest_64 rfl (kdH eT (kd_51 hL)) hn4 (show At (d + 2) MX0_earliest 65 [.ref 50, .ref x1, .int x2, .int x3, .int x4, .int x5, .int (nI 1)] [.int (gI h 51 x5.toNatClampNeg), .int x4] h Q from ?_)
        refine At_iconst (v := nI 1) (pc' := 66) iX0_earliest_65 rfl (by decide) ?_
        refine At_iadd (pc' := 67) iX0_earliest_66 rfl ?_
        refine At_max (pc' := 70) iX0_earliest_67 rfl m_0_43 (Nat.le_of_ble_eq_true rfl) ?_
        refine At_istore (L' := [.ref 50, .ref x1, .int x2, .int x3, .int (if x4 < ((gI h 51 x5.toNatClampNeg) + (nI 1)) then (gI h 51 x5.toNatClampNeg) + (nI 1) else x4), .int x5, .int (nI 1)]) (pc' := 72) iX0_earliest_70 rfl (Nat.le_of_ble_eq_true rfl) rfl ?_
        refine At_iinc (v := nI 1) (L' := [.ref 50, .ref x1, .int x2, .int x3, .int (if x4 < ((gI h 51 x5.toNatClampNeg) + (nI 1)) then (gI h 51 x5.toNatClampNeg) + (nI 1) else x4), .int (x5 + nI 1), .int (nI 1)]) (pc' := 75) iX0_earliest_72 rfl rfl (Nat.le_of_ble_eq_true rfl) (by decide) rfl ?_
        refine At_goto (t := 6) iX0_earliest_75 (by decide) ?_
        exact hv _
set_option maxRecDepth 20000 in
theorem b_X0_earliest_78 {d : Nat} {T : HT} (hL : Lay T) {h : Hp} (eT : h.2.2 = T) (x1 : Nat) (x3 : Int32) (x4 : Int32) (hA1 : IsX7 T x1) {Q : Option Value → Hp → Prop} (hv : ((x4 < (nI 200)) → ((inB x4 202 = true) ∧ ((((gI h 52 x4.toNatClampNeg) < x3) → (Q (some (.int x4)) h)) ∧ (¬ ((gI h 52 x4.toNatClampNeg) < x3) → (L_X0_earliest_78 d x1 x3 (x4 + nI 1) h Q))))) ∧ (¬ (x4 < (nI 200)) → (Q (some (.int x4)) h))) : L_X0_earliest_78 d x1 x3 x4 h Q := by
  intro v1 v2 v5 v6
  refine At_iload (pc' := 80) iX0_earliest_78 rfl rfl ?_
  refine At_sipush (v := nI 200) (pc' := 83) iX0_earliest_80 rfl (by decide) ?_
  refine At_icmp_ge (t := 103) (pc' := 86) iX0_earliest_83 (by decide) rfl (fun c83 => ?_) (fun c83 => ?_)
  · have hv := hv.2 c83
    refine At_iload (pc' := 105) iX0_earliest_103 rfl rfl ?_
    exact At_retI iX0_earliest_105 rfl hv
  · have hv := hv.1 c83
    refine At_aload_n (pc' := 87) iX0_earliest_86 rfl rfl ?_
    refine At_getR (pc' := 90) iX0_earliest_87 rfl f_0_15 (kdK eT (kd_50 hL)) (by decide) (rfH eT (rf_50_1 hL)) ?_
    refine At_iload (pc' := 92) iX0_earliest_90 rfl rfl ?_
    obtain ⟨hn1, hv⟩ := hv
    refine At_iald (pc' := 93) iX0_earliest_92 rfl (kdH eT (kd_52 hL)) hn1 (show At (d + 2) MX0_earliest 93 [.ref 50, v1, v2, .int x3, .int x4, v5, v6] [.int (gI h 52 x4.toNatClampNeg)] h Q from ?_)
    refine At_iload_n (pc' := 94) iX0_earliest_93 rfl rfl ?_
    refine At_icmp_lt (t := 103) (pc' := 97) iX0_earliest_94 (by decide) rfl (fun c94 => ?_) (fun c94 => ?_)
    · have hv := hv.1 c94
      refine At_iload (pc' := 105) iX0_earliest_103 rfl rfl ?_
      exact At_retI iX0_earliest_105 rfl hv
    · have hv := hv.2 c94
      refine At_iinc (v := nI 1) (L' := [.ref 50, v1, v2, .int x3, .int (x4 + nI 1), v5, v6]) (pc' := 100) iX0_earliest_97 rfl rfl (Nat.le_of_ble_eq_true rfl) (by decide) rfl ?_
      refine At_goto (t := 78) iX0_earliest_100 (by decide) ?_
      exact hv _ _ _ _
