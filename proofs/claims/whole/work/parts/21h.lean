-- blocks between loop heads; written out by gen20.py
-- X10_loops (calls X10_ringOf)
set_option maxRecDepth 20000 in
theorem b_X10_loops {d : Nat} {T : HT} (hL : Lay T) {h : Hp} (eT : h.2.2 = T) (x1 : Int32)  {Q : Option Value → Hp → Prop} (hv : ((x1 = (-1)) → (CallI (d + 3) MX10_countRings [.ref 1] h (fun r6 h6 => h6.2.2 = T ∧ (Q (some (.int r6)) h6)))) ∧ (¬ (x1 = (-1)) → ((((r_X10_isSlot x1 h) = true) → (CallI (d + 3) MX10_ringOf [.ref 1, .int x1] h (fun r20 h20 => h20.2.2 = T ∧ (Q (some (.int (r_J6_bitCount_0f7a4 r20))) h20)))) ∧ (¬ ((r_X10_isSlot x1 h) = true) → (Q (some (.int (-1))) h))))) : Call (d + 4) MX10_loops [.ref 1, .int x1] h Q := by
  show At (d + 4) MX10_loops 0 [.ref 1, .int x1] [] h Q
  refine At_iload_n (pc' := 1) iX10_loops_0 rfl rfl ?_
  refine At_iconst (v := (-1)) (pc' := 2) iX10_loops_1 rfl (by decide) ?_
  refine At_icmp_ne (t := 10) (pc' := 5) iX10_loops_2 (by decide) rfl (fun c2 => ?_) (fun c2 => ?_)
  · have hv := hv.2 c2
    refine At_aload_n (pc' := 11) iX10_loops_10 rfl rfl ?_
    refine At_iload_n (pc' := 12) iX10_loops_11 rfl rfl ?_
    refine At_virt (pc' := 15) iX10_loops_12 rfl m_10_71 rfl rfl (kdK eT (kd_1 hL)) (Nat.le_of_ble_eq_true rfl) (Nat.le_of_ble_eq_true rfl) ?_
    refine c_X10_isSlot (h := h) hL eT x1   (show At (d + 4) MX10_loops 15 [.ref 1, .int x1] [.int (b2i (r_X10_isSlot x1 h))] h Q from ?_)
    refine At_zeq (t := 29) (pc' := 18) iX10_loops_15 (by decide) rfl (fun c15 => ?_) (fun c15 => ?_)
    · have hv := hv.2 c15
      refine At_iconst (v := (-1)) (pc' := 30) iX10_loops_29 rfl (by decide) ?_
      exact At_retI iX10_loops_30 rfl hv
    · have hv := hv.1 c15
      refine At_aload_n (pc' := 19) iX10_loops_18 rfl rfl ?_
      refine At_iload_n (pc' := 20) iX10_loops_19 rfl rfl ?_
      refine At_virt (pc' := 23) iX10_loops_20 rfl m_10_236 rfl rfl (kdK eT (kd_1 hL)) (Nat.le_of_ble_eq_true rfl) (Nat.le_of_ble_eq_true rfl) ?_
      refine At.mono (show CallI (d + 3) MX10_ringOf [.ref 1, .int x1] h _ from hv) ?_
      rintro _ h20 ⟨r20, rfl, eT20, hv⟩
      show At (d + 4) MX10_loops 23 [.ref 1, .int x1] [.int r20] h20 Q
      refine At_stat (pc' := 26) iX10_loops_23 rfl m_10_239 rfl rfl (Nat.le_of_ble_eq_true rfl) (Nat.le_of_ble_eq_true rfl) (Nat.le_of_ble_eq_true rfl) ?_
      refine c_J6_bitCount_0f7a4 (h := h20) r20   (show At (d + 4) MX10_loops 26 [.ref 1, .int x1] [.int (r_J6_bitCount_0f7a4 r20)] h20 Q from ?_)
      refine At_goto (t := 30) iX10_loops_26 (by decide) ?_
      exact At_retI iX10_loops_30 rfl hv
  · have hv := hv.1 c2
    refine At_aload_n (pc' := 6) iX10_loops_5 rfl rfl ?_
    refine At_virt (pc' := 9) iX10_loops_6 rfl m_10_232 rfl rfl (kdK eT (kd_1 hL)) (Nat.le_of_ble_eq_true rfl) (Nat.le_of_ble_eq_true rfl) ?_
    refine At.mono (show CallI (d + 3) MX10_countRings [.ref 1] h _ from hv) ?_
    rintro _ h6 ⟨r6, rfl, eT6, hv⟩
    show At (d + 4) MX10_loops 9 [.ref 1, .int x1] [.int r6] h6 Q
    exact At_retI iX10_loops_9 rfl hv
-- X10_stool (calls X8_startAnew)
set_option maxRecDepth 20000 in
theorem b_X10_stool {d : Nat} {T : HT} (hL : Lay T) {h : Hp} (eT : h.2.2 = T) (x1 : Int32)  {Q : Option Value → Hp → Prop} (hv : ((x1 < (nI 4)) → (Q (some (.int (b2i false))) h)) ∧ (¬ (x1 < (nI 4)) → ((((nI 16) < x1) → (Q (some (.int (b2i false))) h)) ∧ (¬ ((nI 16) < x1) → (CallV (d + 3) MX8_startAnew [.ref 12, .int x1] h (fun h18 => h18.2.2 = T ∧ (Q (some (.int (b2i true))) (w_X2_forget h18)))))))) : Call (d + 4) MX10_stool [.ref 1, .int x1] h Q := by
  show At (d + 4) MX10_stool 0 [.ref 1, .int x1] [] h Q
  refine At_iload_n (pc' := 1) iX10_stool_0 rfl rfl ?_
  refine At_iconst (v := nI 4) (pc' := 2) iX10_stool_1 rfl (by decide) ?_
  refine At_icmp_lt (t := 11) (pc' := 5) iX10_stool_2 (by decide) rfl (fun c2 => ?_) (fun c2 => ?_)
  · have hv := hv.1 c2
    refine At_iconst (v := nI 0) (pc' := 12) iX10_stool_11 rfl (by decide) ?_
    exact At_retF iX10_stool_12 rfl hv
  · have hv := hv.2 c2
    refine At_iload_n (pc' := 6) iX10_stool_5 rfl rfl ?_
    refine At_bipush (v := nI 16) (pc' := 8) iX10_stool_6 rfl (by decide) ?_
    refine At_icmp_le (t := 13) (pc' := 11) iX10_stool_8 (by decide) rfl (fun c8 => ?_) (fun c8 => ?_)
    · have hv := hv.2 c8
      refine At_aload_n (pc' := 14) iX10_stool_13 rfl rfl ?_
      refine At_getR (pc' := 17) iX10_stool_14 rfl f_10_19 (kdK eT (kd_1 hL)) (by decide) (rfH eT (rf_1_1 hL)) ?_
      refine At_iload_n (pc' := 18) iX10_stool_17 rfl rfl ?_
      refine At_virt (pc' := 21) iX10_stool_18 rfl m_10_67 rfl rfl (kdK eT (kd_12 hL)) (Nat.le_of_ble_eq_true rfl) (Nat.le_of_ble_eq_true rfl) ?_
      refine At.mono (show CallV (d + 3) MX8_startAnew [.ref 12, .int x1] h _ from hv) ?_
      rintro _ h18 ⟨rfl, eT18, hv⟩
      show At (d + 4) MX10_stool 21 [.ref 1, .int x1] [] h18 Q
      refine At_aload_n (pc' := 22) iX10_stool_21 rfl rfl ?_
      refine At_getR (pc' := 25) iX10_stool_22 rfl f_10_26 (kdK eT18 (kd_1 hL)) (by decide) (rfH eT18 (rf_1_2 hL)) ?_
      refine At_virt (pc' := 28) iX10_stool_25 rfl m_10_64 rfl rfl (kdK eT18 (kd_28 hL)) (Nat.le_of_ble_eq_true rfl) (Nat.le_of_ble_eq_true rfl) ?_
      refine c_X2_forget (h := h18) hL eT18    (show At (d + 4) MX10_stool 28 [.ref 1, .int x1] [] (w_X2_forget h18) Q from ?_)
      refine At_iconst (v := nI 1) (pc' := 29) iX10_stool_28 rfl (by decide) ?_
      exact At_retT iX10_stool_29 rfl hv
    · have hv := hv.1 c8
      refine At_iconst (v := nI 0) (pc' := 12) iX10_stool_11 rfl (by decide) ?_
      exact At_retF iX10_stool_12 rfl hv
-- X10_where (ex)
def L_X10_where_53 (d : Nat) (x2 : Int32) (x3 : Int32) (x4 : Int32) (x5 : Nat) (x6 : Int64) (x8 : Int32) (h : Hp) (Q : Option Value → Hp → Prop) : Prop := ∀ v1 : Value, At (d + 4) MX10_where 53 [.ref 1, v1, .int x2, .int x3, .int x4, .ref x5, .long x6, un, .int x8] [] h Q
set_option maxRecDepth 20000 in
theorem b_X10_where {d : Nat} {T : HT} (hL : Lay T) {h : Hp} (eT : h.2.2 = T) (x1 : Int32) (x2 : Int32) (x3 : Int32) (x4 : Int32)  {Q : Option Value → Hp → Prop} (hv : (((r_X10_isSong x1) = true) → ((((r_X10_isSlot x2 h) = true) → (((x3 < 0) → (Q (some (.int (-1))) h)) ∧ (¬ (x3 < 0) → ((((nI 99) < x3) → (Q (some (.int (-1))) h)) ∧ (¬ ((nI 99) < x3) → (∃ k35 : Nat, x1 = nI k35 ∧ k35 < 4 ∧ (L_X10_where_53 d x2 x3 x4 (20 + 2 * k35) (gJ h 15 0) (nI 0) h Q))))))) ∧ (¬ ((r_X10_isSlot x2 h) = true) → (Q (some (.int (-1))) h)))) ∧ (¬ ((r_X10_isSong x1) = true) → (Q (some (.int (-1))) h))) : Call (d + 4) MX10_where [.ref 1, .int x1, .int x2, .int x3, .int x4] h Q := by
  show At (d + 4) MX10_where 0 [.ref 1, .int x1, .int x2, .int x3, .int x4, un, un, un, un] [] h Q
  refine At_iload_n (pc' := 1) iX10_where_0 rfl rfl ?_
  refine At_stat (pc' := 4) iX10_where_1 rfl m_10_106 rfl rfl (Nat.le_of_ble_eq_true rfl) (Nat.le_of_ble_eq_true rfl) (Nat.le_of_ble_eq_true rfl) ?_
  refine c_X10_isSong (h := h) x1   (show At (d + 4) MX10_where 4 [.ref 1, .int x1, .int x2, .int x3, .int x4, un, un, un, un] [.int (b2i (r_X10_isSong x1))] h Q from ?_)
  refine At_zeq (t := 25) (pc' := 7) iX10_where_4 (by decide) rfl (fun c4 => ?_) (fun c4 => ?_)
  · have hv := hv.2 c4
    refine At_iconst (v := (-1)) (pc' := 26) iX10_where_25 rfl (by decide) ?_
    exact At_retI iX10_where_26 rfl hv
  · have hv := hv.1 c4
    refine At_aload_n (pc' := 8) iX10_where_7 rfl rfl ?_
    refine At_iload_n (pc' := 9) iX10_where_8 rfl rfl ?_
    refine At_virt (pc' := 12) iX10_where_9 rfl m_10_71 rfl rfl (kdK eT (kd_1 hL)) (Nat.le_of_ble_eq_true rfl) (Nat.le_of_ble_eq_true rfl) ?_
    refine c_X10_isSlot (h := h) hL eT x2   (show At (d + 4) MX10_where 12 [.ref 1, .int x1, .int x2, .int x3, .int x4, un, un, un, un] [.int (b2i (r_X10_isSlot x2 h))] h Q from ?_)
    refine At_zeq (t := 25) (pc' := 15) iX10_where_12 (by decide) rfl (fun c12 => ?_) (fun c12 => ?_)
    · have hv := hv.2 c12
      refine At_iconst (v := (-1)) (pc' := 26) iX10_where_25 rfl (by decide) ?_
      exact At_retI iX10_where_26 rfl hv
    · have hv := hv.1 c12
      refine At_iload_n (pc' := 16) iX10_where_15 rfl rfl ?_
      refine At_if_lt (t := 25) (pc' := 19) iX10_where_16 (by decide) rfl (fun c16 => ?_) (fun c16 => ?_)
      · have hv := hv.1 c16
        refine At_iconst (v := (-1)) (pc' := 26) iX10_where_25 rfl (by decide) ?_
        exact At_retI iX10_where_26 rfl hv
      · have hv := hv.2 c16
        refine At_iload_n (pc' := 20) iX10_where_19 rfl rfl ?_
        refine At_bipush (v := nI 99) (pc' := 22) iX10_where_20 rfl (by decide) ?_
        refine At_icmp_le (t := 27) (pc' := 25) iX10_where_22 (by decide) rfl (fun c22 => ?_) (fun c22 => ?_)
        · have hv := hv.2 c22
          refine At_aload_n (pc' := 28) iX10_where_27 rfl rfl ?_
          refine At_getR (pc' := 31) iX10_where_28 rfl f_10_19 (kdK eT (kd_1 hL)) (by decide) (rfH eT (rf_1_1 hL)) ?_
          refine At_getR (pc' := 34) iX10_where_31 rfl f_10_115 (kdK eT (kd_12 hL)) (by decide) (rfH eT (rf_12_5 hL)) ?_
          refine At_iload_n (pc' := 35) iX10_where_34 rfl rfl ?_
          obtain ⟨k35, e35, hk35, hv⟩ := hv
          refine At_aald (b := (20 + 2 * k35)) (pc' := 36) iX10_where_35 rfl (kdH eT (kd_14 hL)) (by decide) (by rw [e35]; exact inB_nI hk35 (by decide)) (by rw [e35, nI_clamp (by omega)]; exact rfH eT (rf_song hL hk35)) ?_
          refine At_astore (L' := [.ref 1, .int x1, .int x2, .int x3, .int x4, .ref (20 + 2 * k35), un, un, un]) (pc' := 38) iX10_where_36 rfl (Nat.le_of_ble_eq_true rfl) rfl ?_
          refine At_aload_n (pc' := 39) iX10_where_38 rfl rfl ?_
          refine At_getR (pc' := 42) iX10_where_39 rfl f_10_19 (kdK eT (kd_1 hL)) (by decide) (rfH eT (rf_1_1 hL)) ?_
          refine At_getR (pc' := 45) iX10_where_42 rfl f_10_57 (kdK eT (kd_12 hL)) (by decide) (rfH eT (rf_12_6 hL)) ?_
          refine At_getJ (pc' := 48) iX10_where_45 rfl f_10_146 (kdK eT (kd_15 hL)) (by decide) ?_
          refine At_lstore (L' := [.ref 1, .int x1, .int x2, .int x3, .int x4, .ref (20 + 2 * k35), .long (gJ h 15 0), un, un]) (pc' := 50) iX10_where_48 rfl (Nat.le_of_ble_eq_true rfl) rfl ?_
          refine At_iconst (v := nI 0) (pc' := 51) iX10_where_50 rfl (by decide) ?_
          refine At_istore (L' := [.ref 1, .int x1, .int x2, .int x3, .int x4, .ref (20 + 2 * k35), .long (gJ h 15 0), un, .int (nI 0)]) (pc' := 53) iX10_where_51 rfl (Nat.le_of_ble_eq_true rfl) rfl ?_
          exact hv _
        · have hv := hv.1 c22
          refine At_iconst (v := (-1)) (pc' := 26) iX10_where_25 rfl (by decide) ?_
          exact At_retI iX10_where_26 rfl hv
set_option maxRecDepth 20000 in
theorem b_X10_where_53 {d : Nat} {T : HT} (hL : Lay T) {h : Hp} (eT : h.2.2 = T) (x2 : Int32) (x3 : Int32) (x4 : Int32) (x5 : Nat) (x6 : Int64) (x8 : Int32) (hX5 : IsX7 T x5) {Q : Option Value → Hp → Prop} (hv : ((x8 < x3) → (((x4 = 0) → (CallJ (d + 3) MX7_sungFrom [.ref x5, .long x6, .long (gJ h 12 2), .int (gI h 12 0), .int (-1)] h (fun r107 h107 => h107.2.2 = T ∧ (L_X10_where_53 d x2 x3 x4 x5 r107 (x8 + nI 1) h107 Q)))) ∧ (¬ (x4 = 0) → (CallJ (d + 3) MX7_mirroredFrom [.ref x5, .long x6, .long (gJ h 12 2), .int (gI h 12 0)] h (fun r82 h82 => h82.2.2 = T ∧ (L_X10_where_53 d x2 x3 x4 x5 r82 (x8 + nI 1) h82 Q)))))) ∧ (¬ (x8 < x3) → (CallI (d + 3) MX6_slotWith [.long x6, .int x2, .int (gI h 12 0)] h (fun r128 h128 => h128.2.2 = T ∧ (Q (some (.int r128)) h128))))) : L_X10_where_53 d x2 x3 x4 x5 x6 x8 h Q := by
  intro v1
  refine At_iload (pc' := 55) iX10_where_53 rfl rfl ?_
  refine At_iload_n (pc' := 56) iX10_where_55 rfl rfl ?_
  refine At_icmp_ge (t := 118) (pc' := 59) iX10_where_56 (by decide) rfl (fun c56 => ?_) (fun c56 => ?_)
  · have hv := hv.2 c56
    refine At_lload (pc' := 120) iX10_where_118 rfl rfl ?_
    refine At_iload_n (pc' := 121) iX10_where_120 rfl rfl ?_
    refine At_aload_n (pc' := 122) iX10_where_121 rfl rfl ?_
    refine At_getR (pc' := 125) iX10_where_122 rfl f_10_19 (kdK eT (kd_1 hL)) (by decide) (rfH eT (rf_1_1 hL)) ?_
    refine At_getI (pc' := 128) iX10_where_125 rfl f_10_109 (kdK eT (kd_12 hL)) (by decide) ?_
    refine At_stat (pc' := 131) iX10_where_128 rfl m_10_153 rfl rfl (Nat.le_of_ble_eq_true rfl) (Nat.le_of_ble_eq_true rfl) (Nat.le_of_ble_eq_true rfl) ?_
    refine At.mono (show CallI (d + 3) MX6_slotWith [.long x6, .int x2, .int (gI h 12 0)] h _ from hv) ?_
    rintro _ h128 ⟨r128, rfl, eT128, hv⟩
    show At (d + 4) MX10_where 131 [.ref 1, v1, .int x2, .int x3, .int x4, .ref x5, .long x6, un, .int x8] [.int r128] h128 Q
    exact At_retI iX10_where_131 rfl hv
  · have hv := hv.1 c56
    refine At_iload (pc' := 61) iX10_where_59 rfl rfl ?_
    refine At_if_eq (t := 88) (pc' := 64) iX10_where_61 (by decide) rfl (fun c61 => ?_) (fun c61 => ?_)
    · have hv := hv.1 c61
      refine At_aload (pc' := 90) iX10_where_88 rfl rfl ?_
      refine At_lload (pc' := 92) iX10_where_90 rfl rfl ?_
      refine At_aload_n (pc' := 93) iX10_where_92 rfl rfl ?_
      refine At_getR (pc' := 96) iX10_where_93 rfl f_10_19 (kdK eT (kd_1 hL)) (by decide) (rfH eT (rf_1_1 hL)) ?_
      refine At_getJ (pc' := 99) iX10_where_96 rfl f_10_78 (kdK eT (kd_12 hL)) (by decide) ?_
      refine At_aload_n (pc' := 100) iX10_where_99 rfl rfl ?_
      refine At_getR (pc' := 103) iX10_where_100 rfl f_10_19 (kdK eT (kd_1 hL)) (by decide) (rfH eT (rf_1_1 hL)) ?_
      refine At_getI (pc' := 106) iX10_where_103 rfl f_10_109 (kdK eT (kd_12 hL)) (by decide) ?_
      refine At_iconst (v := (-1)) (pc' := 107) iX10_where_106 rfl (by decide) ?_
      refine At_virt (pc' := 110) iX10_where_107 rfl m_10_185 rfl rfl (kdK eT (X7_k0 hX5)) (Nat.le_of_ble_eq_true rfl) (Nat.le_of_ble_eq_true rfl) ?_
      refine At.mono (show CallJ (d + 3) MX7_sungFrom [.ref x5, .long x6, .long (gJ h 12 2), .int (gI h 12 0), .int (-1)] h _ from hv) ?_
      rintro _ h107 ⟨r107, rfl, eT107, hv⟩
      show At (d + 4) MX10_where 110 [.ref 1, v1, .int x2, .int x3, .int x4, .ref x5, .long x6, un, .int x8] [.long r107] h107 Q
      refine At_lstore (L' := [.ref 1, v1, .int x2, .int x3, .int x4, .ref x5, .long r107, un, .int x8]) (pc' := 112) iX10_where_110 rfl (Nat.le_of_ble_eq_true rfl) rfl ?_
      refine At_iinc (v := nI 1) (L' := [.ref 1, v1, .int x2, .int x3, .int x4, .ref x5, .long r107, un, .int (x8 + nI 1)]) (pc' := 115) iX10_where_112 rfl rfl (Nat.le_of_ble_eq_true rfl) (by decide) rfl ?_
      refine At_goto (t := 53) iX10_where_115 (by decide) ?_
      exact hv _
    · have hv := hv.2 c61
      refine At_aload (pc' := 66) iX10_where_64 rfl rfl ?_
      refine At_lload (pc' := 68) iX10_where_66 rfl rfl ?_
      refine At_aload_n (pc' := 69) iX10_where_68 rfl rfl ?_
      refine At_getR (pc' := 72) iX10_where_69 rfl f_10_19 (kdK eT (kd_1 hL)) (by decide) (rfH eT (rf_1_1 hL)) ?_
      refine At_getJ (pc' := 75) iX10_where_72 rfl f_10_78 (kdK eT (kd_12 hL)) (by decide) ?_
      refine At_aload_n (pc' := 76) iX10_where_75 rfl rfl ?_
      refine At_getR (pc' := 79) iX10_where_76 rfl f_10_19 (kdK eT (kd_1 hL)) (by decide) (rfH eT (rf_1_1 hL)) ?_
      refine At_getI (pc' := 82) iX10_where_79 rfl f_10_109 (kdK eT (kd_12 hL)) (by decide) ?_
      refine At_virt (pc' := 85) iX10_where_82 rfl m_10_181 rfl rfl (kdK eT (X7_k0 hX5)) (Nat.le_of_ble_eq_true rfl) (Nat.le_of_ble_eq_true rfl) ?_
      refine At.mono (show CallJ (d + 3) MX7_mirroredFrom [.ref x5, .long x6, .long (gJ h 12 2), .int (gI h 12 0)] h _ from hv) ?_
      rintro _ h82 ⟨r82, rfl, eT82, hv⟩
      show At (d + 4) MX10_where 85 [.ref 1, v1, .int x2, .int x3, .int x4, .ref x5, .long x6, un, .int x8] [.long r82] h82 Q
      refine At_goto (t := 110) iX10_where_85 (by decide) ?_
      refine At_lstore (L' := [.ref 1, v1, .int x2, .int x3, .int x4, .ref x5, .long r82, un, .int x8]) (pc' := 112) iX10_where_110 rfl (Nat.le_of_ble_eq_true rfl) rfl ?_
      refine At_iinc (v := nI 1) (L' := [.ref 1, v1, .int x2, .int x3, .int x4, .ref x5, .long r82, un, .int (x8 + nI 1)]) (pc' := 115) iX10_where_112 rfl rfl (Nat.le_of_ble_eq_true rfl) (by decide) rfl ?_
      refine At_goto (t := 53) iX10_where_115 (by decide) ?_
      exact hv _
-- X11_aMove (calls X11_next0)
def L_X11_aMove_41 (d : Nat) (x1 : Int32) (x2 : Int32) (h : Hp) (Q : Option Value → Hp → Prop) : Prop := ∀ v3 v4 : Value, At (d + 4) MX11_aMove 41 [.ref 59, .int x1, .int x2, v3, v4] [] h Q
def L_X11_aMove_97 (d : Nat) (x1 : Int32) (x2 : Int32) (x3 : Int32) (x4 : Int32) (h : Hp) (Q : Option Value → Hp → Prop) : Prop := At (d + 4) MX11_aMove 97 [.ref 59, .int x1, .int x2, .int x3, .int x4] [] h Q
set_option maxRecDepth 20000 in
theorem b_X11_aMove {d : Nat} {T : HT} (hL : Lay T) {h : Hp} (eT : h.2.2 = T) (x1 : Int32)  {Q : Option Value → Hp → Prop} (hv : CallV (d + 3) MX11_next0 [.ref 59] h (fun h1 => h1.2.2 = T ∧ (CallZ (d + 3) MX11_number [.ref 59, .int (nI 0), .int ((gI h1 60 0) - (nI 1))] h1 (fun r19 h19 => h19.2.2 = T ∧ (((r19 = true) → (((x1 = 0) → (CallZ (d + 3) MX11_need [.ref 59, .int (nI 4)] h19 (fun r33 h33 => h33.2.2 = T ∧ (((r33 = true) → (L_X11_aMove_41 d x1 (gI h1 59 12) h33 Q)) ∧ (¬ (r33 = true) → (Q (some (.int (b2i false))) h33)))))) ∧ (¬ (x1 = 0) → (L_X11_aMove_41 d x1 (gI h1 59 12) h19 Q)))) ∧ (¬ (r19 = true) → (Q (some (.int (b2i false))) h19))))))) : Call (d + 4) MX11_aMove [.ref 59, .int x1] h Q := by
  show At (d + 4) MX11_aMove 0 [.ref 59, .int x1, un, un, un] [] h Q
  refine At_aload_n (pc' := 1) iX11_aMove_0 rfl rfl ?_
  refine At_virt (pc' := 4) iX11_aMove_1 rfl m_11_145 rfl rfl (kdK eT (kd_59 hL)) (Nat.le_of_ble_eq_true rfl) (Nat.le_of_ble_eq_true rfl) ?_
  refine At.mono (show CallV (d + 3) MX11_next0 [.ref 59] h _ from hv) ?_
  rintro _ h1 ⟨rfl, eT1, hv⟩
  show At (d + 4) MX11_aMove 4 [.ref 59, .int x1, un, un, un] [] h1 Q
  refine At_aload_n (pc' := 5) iX11_aMove_4 rfl rfl ?_
  refine At_getI (pc' := 8) iX11_aMove_5 rfl f_11_133 (kdK eT1 (kd_59 hL)) (by decide) ?_
  refine At_istore_n (L' := [.ref 59, .int x1, .int (gI h1 59 12), un, un]) (pc' := 9) iX11_aMove_8 rfl (Nat.le_of_ble_eq_true rfl) rfl ?_
  refine At_aload_n (pc' := 10) iX11_aMove_9 rfl rfl ?_
  refine At_iconst (v := nI 0) (pc' := 11) iX11_aMove_10 rfl (by decide) ?_
  refine At_aload_n (pc' := 12) iX11_aMove_11 rfl rfl ?_
  refine At_getR (pc' := 15) iX11_aMove_12 rfl f_11_7 (kdK eT1 (kd_59 hL)) (by decide) (rfH eT1 (rf_59_0 hL)) ?_
  refine At_iconst (v := nI 0) (pc' := 16) iX11_aMove_15 rfl (by decide) ?_
  refine At_iald (pc' := 17) iX11_aMove_16 rfl (kdH eT1 (kd_60 hL)) (by decide) (show At (d + 4) MX11_aMove 17 [.ref 59, .int x1, .int (gI h1 59 12), un, un] [.int (gI h1 60 0), .int (nI 0), .ref 59] h1 Q from ?_)
  refine At_iconst (v := nI 1) (pc' := 18) iX11_aMove_17 rfl (by decide) ?_
  refine At_isub (pc' := 19) iX11_aMove_18 rfl ?_
  refine At_virt (pc' := 22) iX11_aMove_19 rfl m_11_151 rfl rfl (kdK eT1 (kd_59 hL)) (Nat.le_of_ble_eq_true rfl) (Nat.le_of_ble_eq_true rfl) ?_
  refine At.mono (show CallZ (d + 3) MX11_number [.ref 59, .int (nI 0), .int ((gI h1 60 0) - (nI 1))] h1 _ from hv) ?_
  rintro _ h19 ⟨r19, rfl, eT19, hv⟩
  show At (d + 4) MX11_aMove 22 [.ref 59, .int x1, .int (gI h1 59 12), un, un] [.int (b2i r19)] h19 Q
  refine At_zne (t := 27) (pc' := 25) iX11_aMove_22 (by decide) rfl (fun c22 => ?_) (fun c22 => ?_)
  · have hv := hv.1 c22
    refine At_iload_n (pc' := 28) iX11_aMove_27 rfl rfl ?_
    refine At_if_ne (t := 41) (pc' := 31) iX11_aMove_28 (by decide) rfl (fun c28 => ?_) (fun c28 => ?_)
    · have hv := hv.2 c28
      exact hv _ _
    · have hv := hv.1 c28
      refine At_aload_n (pc' := 32) iX11_aMove_31 rfl rfl ?_
      refine At_iconst (v := nI 4) (pc' := 33) iX11_aMove_32 rfl (by decide) ?_
      refine At_virt (pc' := 36) iX11_aMove_33 rfl m_11_155 rfl rfl (kdK eT19 (kd_59 hL)) (Nat.le_of_ble_eq_true rfl) (Nat.le_of_ble_eq_true rfl) ?_
      refine At.mono (show CallZ (d + 3) MX11_need [.ref 59, .int (nI 4)] h19 _ from hv) ?_
      rintro _ h33 ⟨r33, rfl, eT33, hv⟩
      show At (d + 4) MX11_aMove 36 [.ref 59, .int x1, .int (gI h1 59 12), un, un] [.int (b2i r33)] h33 Q
      refine At_zne (t := 41) (pc' := 39) iX11_aMove_36 (by decide) rfl (fun c36 => ?_) (fun c36 => ?_)
      · have hv := hv.1 c36
        exact hv _ _
      · have hv := hv.2 c36
        refine At_iconst (v := nI 0) (pc' := 40) iX11_aMove_39 rfl (by decide) ?_
        exact At_retF iX11_aMove_40 rfl hv
  · have hv := hv.2 c22
    refine At_iconst (v := nI 0) (pc' := 26) iX11_aMove_25 rfl (by decide) ?_
    exact At_retF iX11_aMove_26 rfl hv
set_option maxRecDepth 20000 in
theorem b_X11_aMove_41 {d : Nat} {T : HT} (hL : Lay T) {h : Hp} (eT : h.2.2 = T) (x1 : Int32) (x2 : Int32)  {Q : Option Value → Hp → Prop} (hv : CallZ (d + 3) MX11_number [.ref 59, .int (nI 0), .int ((gI h 60 0) - (nI 1))] h (fun r56 h56 => h56.2.2 = T ∧ (((r56 = true) → ((((gI h56 59 10) = (nI 5)) → (CallV (d + 3) MX11_next0 [.ref 59] h56 (fun h76 => h76.2.2 = T ∧ (CallZ (d + 3) MX11_number [.ref 59, .int (nI 0), .int (nI 9)] h76 (fun r89 h89 => h89.2.2 = T ∧ (((r89 = true) → (L_X11_aMove_97 d x1 x2 (gI h 59 12) (gI h76 59 12) h89 Q)) ∧ (¬ (r89 = true) → (Q (some (.int (b2i false))) h89)))))))) ∧ (¬ ((gI h56 59 10) = (nI 5)) → (L_X11_aMove_97 d x1 x2 (gI h 59 12) (-1) h56 Q)))) ∧ (¬ (r56 = true) → (Q (some (.int (b2i false))) h56))))) : L_X11_aMove_41 d x1 x2 h Q := by
  intro v3 v4
  refine At_aload_n (pc' := 42) iX11_aMove_41 rfl rfl ?_
  refine At_getI (pc' := 45) iX11_aMove_42 rfl f_11_133 (kdK eT (kd_59 hL)) (by decide) ?_
  refine At_istore_n (L' := [.ref 59, .int x1, .int x2, .int (gI h 59 12), v4]) (pc' := 46) iX11_aMove_45 rfl (Nat.le_of_ble_eq_true rfl) rfl ?_
  refine At_aload_n (pc' := 47) iX11_aMove_46 rfl rfl ?_
  refine At_iconst (v := nI 0) (pc' := 48) iX11_aMove_47 rfl (by decide) ?_
  refine At_aload_n (pc' := 49) iX11_aMove_48 rfl rfl ?_
  refine At_getR (pc' := 52) iX11_aMove_49 rfl f_11_7 (kdK eT (kd_59 hL)) (by decide) (rfH eT (rf_59_0 hL)) ?_
  refine At_iconst (v := nI 0) (pc' := 53) iX11_aMove_52 rfl (by decide) ?_
  refine At_iald (pc' := 54) iX11_aMove_53 rfl (kdH eT (kd_60 hL)) (by decide) (show At (d + 4) MX11_aMove 54 [.ref 59, .int x1, .int x2, .int (gI h 59 12), v4] [.int (gI h 60 0), .int (nI 0), .ref 59] h Q from ?_)
  refine At_iconst (v := nI 1) (pc' := 55) iX11_aMove_54 rfl (by decide) ?_
  refine At_isub (pc' := 56) iX11_aMove_55 rfl ?_
  refine At_virt (pc' := 59) iX11_aMove_56 rfl m_11_151 rfl rfl (kdK eT (kd_59 hL)) (Nat.le_of_ble_eq_true rfl) (Nat.le_of_ble_eq_true rfl) ?_
  refine At.mono (show CallZ (d + 3) MX11_number [.ref 59, .int (nI 0), .int ((gI h 60 0) - (nI 1))] h _ from hv) ?_
  rintro _ h56 ⟨r56, rfl, eT56, hv⟩
  show At (d + 4) MX11_aMove 59 [.ref 59, .int x1, .int x2, .int (gI h 59 12), v4] [.int (b2i r56)] h56 Q
  refine At_zne (t := 64) (pc' := 62) iX11_aMove_59 (by decide) rfl (fun c59 => ?_) (fun c59 => ?_)
  · have hv := hv.1 c59
    refine At_iconst (v := (-1)) (pc' := 65) iX11_aMove_64 rfl (by decide) ?_
    refine At_istore (L' := [.ref 59, .int x1, .int x2, .int (gI h 59 12), .int (-1)]) (pc' := 67) iX11_aMove_65 rfl (Nat.le_of_ble_eq_true rfl) rfl ?_
    refine At_aload_n (pc' := 68) iX11_aMove_67 rfl rfl ?_
    refine At_getI (pc' := 71) iX11_aMove_68 rfl f_11_121 (kdK eT56 (kd_59 hL)) (by decide) ?_
    refine At_iconst (v := nI 5) (pc' := 72) iX11_aMove_71 rfl (by decide) ?_
    refine At_icmp_ne (t := 97) (pc' := 75) iX11_aMove_72 (by decide) rfl (fun c72 => ?_) (fun c72 => ?_)
    · have hv := hv.2 c72
      exact hv
    · have hv := hv.1 c72
      refine At_aload_n (pc' := 76) iX11_aMove_75 rfl rfl ?_
      refine At_virt (pc' := 79) iX11_aMove_76 rfl m_11_145 rfl rfl (kdK eT56 (kd_59 hL)) (Nat.le_of_ble_eq_true rfl) (Nat.le_of_ble_eq_true rfl) ?_
      refine At.mono (show CallV (d + 3) MX11_next0 [.ref 59] h56 _ from hv) ?_
      rintro _ h76 ⟨rfl, eT76, hv⟩
      show At (d + 4) MX11_aMove 79 [.ref 59, .int x1, .int x2, .int (gI h 59 12), .int (-1)] [] h76 Q
      refine At_aload_n (pc' := 80) iX11_aMove_79 rfl rfl ?_
      refine At_getI (pc' := 83) iX11_aMove_80 rfl f_11_133 (kdK eT76 (kd_59 hL)) (by decide) ?_
      refine At_istore (L' := [.ref 59, .int x1, .int x2, .int (gI h 59 12), .int (gI h76 59 12)]) (pc' := 85) iX11_aMove_83 rfl (Nat.le_of_ble_eq_true rfl) rfl ?_
      refine At_aload_n (pc' := 86) iX11_aMove_85 rfl rfl ?_
      refine At_iconst (v := nI 0) (pc' := 87) iX11_aMove_86 rfl (by decide) ?_
      refine At_bipush (v := nI 9) (pc' := 89) iX11_aMove_87 rfl (by decide) ?_
      refine At_virt (pc' := 92) iX11_aMove_89 rfl m_11_151 rfl rfl (kdK eT76 (kd_59 hL)) (Nat.le_of_ble_eq_true rfl) (Nat.le_of_ble_eq_true rfl) ?_
      refine At.mono (show CallZ (d + 3) MX11_number [.ref 59, .int (nI 0), .int (nI 9)] h76 _ from hv) ?_
      rintro _ h89 ⟨r89, rfl, eT89, hv⟩
      show At (d + 4) MX11_aMove 92 [.ref 59, .int x1, .int x2, .int (gI h 59 12), .int (gI h76 59 12)] [.int (b2i r89)] h89 Q
      refine At_zne (t := 97) (pc' := 95) iX11_aMove_92 (by decide) rfl (fun c92 => ?_) (fun c92 => ?_)
      · have hv := hv.1 c92
        exact hv
      · have hv := hv.2 c92
        refine At_iconst (v := nI 0) (pc' := 96) iX11_aMove_95 rfl (by decide) ?_
        exact At_retF iX11_aMove_96 rfl hv
  · have hv := hv.2 c59
    refine At_iconst (v := nI 0) (pc' := 63) iX11_aMove_62 rfl (by decide) ?_
    exact At_retF iX11_aMove_63 rfl hv
set_option maxRecDepth 20000 in
theorem b_X11_aMove_97 {d : Nat} {T : HT} (hL : Lay T) {h : Hp} (eT : h.2.2 = T) (x1 : Int32) (x2 : Int32) (x3 : Int32) (x4 : Int32)  {Q : Option Value → Hp → Prop} (hv : CallZ (d + 3) MX11_need [.ref 59, .int (nI 159)] h (fun r101 h101 => h101.2.2 = T ∧ (((r101 = true) → ((p_X11_puts x1 x2 x3 x4 h101) ∧ (Q (some (.int (b2i true))) (w_X11_puts x1 x2 x3 x4 h101)))) ∧ (¬ (r101 = true) → (Q (some (.int (b2i false))) h101))))) : L_X11_aMove_97 d x1 x2 x3 x4 h Q := by
  refine At_aload_n (pc' := 98) iX11_aMove_97 rfl rfl ?_
  refine At_sipush (v := nI 159) (pc' := 101) iX11_aMove_98 rfl (by decide) ?_
  refine At_virt (pc' := 104) iX11_aMove_101 rfl m_11_155 rfl rfl (kdK eT (kd_59 hL)) (Nat.le_of_ble_eq_true rfl) (Nat.le_of_ble_eq_true rfl) ?_
  refine At.mono (show CallZ (d + 3) MX11_need [.ref 59, .int (nI 159)] h _ from hv) ?_
  rintro _ h101 ⟨r101, rfl, eT101, hv⟩
  show At (d + 4) MX11_aMove 104 [.ref 59, .int x1, .int x2, .int x3, .int x4] [.int (b2i r101)] h101 Q
  refine At_zne (t := 109) (pc' := 107) iX11_aMove_104 (by decide) rfl (fun c104 => ?_) (fun c104 => ?_)
  · have hv := hv.1 c104
    refine At_aload_n (pc' := 110) iX11_aMove_109 rfl rfl ?_
    refine At_iload_n (pc' := 111) iX11_aMove_110 rfl rfl ?_
    refine At_iload_n (pc' := 112) iX11_aMove_111 rfl rfl ?_
    refine At_iload_n (pc' := 113) iX11_aMove_112 rfl rfl ?_
    refine At_iload (pc' := 115) iX11_aMove_113 rfl rfl ?_
    refine At_virt (pc' := 118) iX11_aMove_115 rfl m_11_158 rfl rfl (kdK eT101 (kd_59 hL)) (Nat.le_of_ble_eq_true rfl) (Nat.le_of_ble_eq_true rfl) ?_
    obtain ⟨hn1, hv⟩ := hv
    refine c_X11_puts (h := h101) hL eT101 x1 x2 x3 x4  hn1 (show At (d + 4) MX11_aMove 118 [.ref 59, .int x1, .int x2, .int x3, .int x4] [] (w_X11_puts x1 x2 x3 x4 h101) Q from ?_)
    refine At_iconst (v := nI 1) (pc' := 119) iX11_aMove_118 rfl (by decide) ?_
    exact At_retT iX11_aMove_119 rfl hv
  · have hv := hv.2 c104
    refine At_iconst (v := nI 0) (pc' := 108) iX11_aMove_107 rfl (by decide) ?_
    exact At_retF iX11_aMove_108 rfl hv
-- X11_aTurn (calls X11_next0)
set_option maxRecDepth 20000 in
theorem b_X11_aTurn {d : Nat} {T : HT} (hL : Lay T) {h : Hp} (eT : h.2.2 = T)   {Q : Option Value → Hp → Prop} (hv : CallV (d + 3) MX11_next0 [.ref 59] h (fun h1 => h1.2.2 = T ∧ (CallZ (d + 3) MX11_number [.ref 59, .int (nI 0), .int (nI 15)] h1 (fun r13 h13 => h13.2.2 = T ∧ (((r13 = true) → (CallZ (d + 3) MX11_need [.ref 59, .int (nI 159)] h13 (fun r23 h23 => h23.2.2 = T ∧ (((r23 = true) → ((p_X11_puts (nI 2) (gI h1 59 12) (nI 0) (-1) h23) ∧ (Q (some (.int (b2i true))) (w_X11_puts (nI 2) (gI h1 59 12) (nI 0) (-1) h23)))) ∧ (¬ (r23 = true) → (Q (some (.int (b2i false))) h23)))))) ∧ (¬ (r13 = true) → (Q (some (.int (b2i false))) h13))))))) : Call (d + 4) MX11_aTurn [.ref 59] h Q := by
  show At (d + 4) MX11_aTurn 0 [.ref 59, un] [] h Q
  refine At_aload_n (pc' := 1) iX11_aTurn_0 rfl rfl ?_
  refine At_virt (pc' := 4) iX11_aTurn_1 rfl m_11_145 rfl rfl (kdK eT (kd_59 hL)) (Nat.le_of_ble_eq_true rfl) (Nat.le_of_ble_eq_true rfl) ?_
  refine At.mono (show CallV (d + 3) MX11_next0 [.ref 59] h _ from hv) ?_
  rintro _ h1 ⟨rfl, eT1, hv⟩
  show At (d + 4) MX11_aTurn 4 [.ref 59, un] [] h1 Q
  refine At_aload_n (pc' := 5) iX11_aTurn_4 rfl rfl ?_
  refine At_getI (pc' := 8) iX11_aTurn_5 rfl f_11_133 (kdK eT1 (kd_59 hL)) (by decide) ?_
  refine At_istore_n (L' := [.ref 59, .int (gI h1 59 12)]) (pc' := 9) iX11_aTurn_8 rfl (Nat.le_of_ble_eq_true rfl) rfl ?_
  refine At_aload_n (pc' := 10) iX11_aTurn_9 rfl rfl ?_
  refine At_iconst (v := nI 0) (pc' := 11) iX11_aTurn_10 rfl (by decide) ?_
  refine At_bipush (v := nI 15) (pc' := 13) iX11_aTurn_11 rfl (by decide) ?_
  refine At_virt (pc' := 16) iX11_aTurn_13 rfl m_11_151 rfl rfl (kdK eT1 (kd_59 hL)) (Nat.le_of_ble_eq_true rfl) (Nat.le_of_ble_eq_true rfl) ?_
  refine At.mono (show CallZ (d + 3) MX11_number [.ref 59, .int (nI 0), .int (nI 15)] h1 _ from hv) ?_
  rintro _ h13 ⟨r13, rfl, eT13, hv⟩
  show At (d + 4) MX11_aTurn 16 [.ref 59, .int (gI h1 59 12)] [.int (b2i r13)] h13 Q
  refine At_zeq (t := 29) (pc' := 19) iX11_aTurn_16 (by decide) rfl (fun c16 => ?_) (fun c16 => ?_)
  · have hv := hv.2 c16
    refine At_iconst (v := nI 0) (pc' := 30) iX11_aTurn_29 rfl (by decide) ?_
    exact At_retF iX11_aTurn_30 rfl hv
  · have hv := hv.1 c16
    refine At_aload_n (pc' := 20) iX11_aTurn_19 rfl rfl ?_
    refine At_sipush (v := nI 159) (pc' := 23) iX11_aTurn_20 rfl (by decide) ?_
    refine At_virt (pc' := 26) iX11_aTurn_23 rfl m_11_155 rfl rfl (kdK eT13 (kd_59 hL)) (Nat.le_of_ble_eq_true rfl) (Nat.le_of_ble_eq_true rfl) ?_
    refine At.mono (show CallZ (d + 3) MX11_need [.ref 59, .int (nI 159)] h13 _ from hv) ?_
    rintro _ h23 ⟨r23, rfl, eT23, hv⟩
    show At (d + 4) MX11_aTurn 26 [.ref 59, .int (gI h1 59 12)] [.int (b2i r23)] h23 Q
    refine At_zne (t := 31) (pc' := 29) iX11_aTurn_26 (by decide) rfl (fun c26 => ?_) (fun c26 => ?_)
    · have hv := hv.1 c26
      refine At_aload_n (pc' := 32) iX11_aTurn_31 rfl rfl ?_
      refine At_iconst (v := nI 2) (pc' := 33) iX11_aTurn_32 rfl (by decide) ?_
      refine At_iload_n (pc' := 34) iX11_aTurn_33 rfl rfl ?_
      refine At_iconst (v := nI 0) (pc' := 35) iX11_aTurn_34 rfl (by decide) ?_
      refine At_iconst (v := (-1)) (pc' := 36) iX11_aTurn_35 rfl (by decide) ?_
      refine At_virt (pc' := 39) iX11_aTurn_36 rfl m_11_158 rfl rfl (kdK eT23 (kd_59 hL)) (Nat.le_of_ble_eq_true rfl) (Nat.le_of_ble_eq_true rfl) ?_
      obtain ⟨hn1, hv⟩ := hv
      refine c_X11_puts (h := h23) hL eT23 (nI 2) (gI h1 59 12) (nI 0) (-1)  hn1 (show At (d + 4) MX11_aTurn 39 [.ref 59, .int (gI h1 59 12)] [] (w_X11_puts (nI 2) (gI h1 59 12) (nI 0) (-1) h23) Q from ?_)
      refine At_iconst (v := nI 1) (pc' := 40) iX11_aTurn_39 rfl (by decide) ?_
      exact At_retT iX11_aTurn_40 rfl hv
    · have hv := hv.2 c26
      refine At_iconst (v := nI 0) (pc' := 30) iX11_aTurn_29 rfl (by decide) ?_
      exact At_retF iX11_aTurn_30 rfl hv
-- X11_alike (loop)
def L_X11_alike_18 (d : Nat) (x1 : Int32) (x2 : Int32) (x3 : Int32) (h : Hp) (Q : Option Value → Hp → Prop) : Prop := ∀ v4 v5 : Value, At (d + 4) MX11_alike 18 [.ref 59, .int x1, .int x2, .int x3, v4, v5] [] h Q
def L_X11_alike_53 (d : Nat) (x2 : Int32) (x3 : Int32) (h : Hp) (Q : Option Value → Hp → Prop) : Prop := ∀ v1 v4 v5 : Value, At (d + 4) MX11_alike 53 [.ref 59, v1, .int x2, .int x3, v4, v5] [] h Q
def L_X11_alike_83 (d : Nat) (x2 : Int32) (x3 : Int32) (h : Hp) (Q : Option Value → Hp → Prop) : Prop := ∀ v1 v4 v5 : Value, At (d + 4) MX11_alike 83 [.ref 59, v1, .int x2, .int x3, v4, v5] [] h Q
def L_X11_alike_124 (d : Nat) (x3 : Int32) (x4 : Int32) (x5 : Int32) (h : Hp) (Q : Option Value → Hp → Prop) : Prop := ∀ v1 v2 : Value, At (d + 4) MX11_alike 124 [.ref 59, v1, v2, .int x3, .int x4, .int x5] [] h Q
def L_X11_alike_171 (d : Nat) (x3 : Int32) (x4 : Int32) (x5 : Int32) (h : Hp) (Q : Option Value → Hp → Prop) : Prop := ∀ v1 v2 : Value, At (d + 4) MX11_alike 171 [.ref 59, v1, v2, .int x3, .int x4, .int x5] [] h Q
def L_X11_alike_220 (d : Nat) (x3 : Int32) (x4 : Int32) (x5 : Int32) (h : Hp) (Q : Option Value → Hp → Prop) : Prop := ∀ v1 v2 : Value, At (d + 4) MX11_alike 220 [.ref 59, v1, v2, .int x3, .int x4, .int x5] [] h Q
set_option maxRecDepth 20000 in
theorem b_X11_alike {d : Nat} {T : HT} (hL : Lay T) {h : Hp} (eT : h.2.2 = T) (x1 : Int32) (x2 : Int32)  {Q : Option Value → Hp → Prop} (hv : (((r_X11_isSong x1) = true) → ((((r_X11_isSong x2) = true) → (L_X11_alike_18 d x1 x2 (nI 0) h Q)) ∧ (¬ ((r_X11_isSong x2) = true) → (Q (some (.int (-1))) h)))) ∧ (¬ ((r_X11_isSong x1) = true) → (Q (some (.int (-1))) h))) : Call (d + 4) MX11_alike [.ref 59, .int x1, .int x2] h Q := by
  show At (d + 4) MX11_alike 0 [.ref 59, .int x1, .int x2, un, un, un] [] h Q
  refine At_iload_n (pc' := 1) iX11_alike_0 rfl rfl ?_
  refine At_stat (pc' := 4) iX11_alike_1 rfl m_11_178 rfl rfl (Nat.le_of_ble_eq_true rfl) (Nat.le_of_ble_eq_true rfl) (Nat.le_of_ble_eq_true rfl) ?_
  refine c_X11_isSong (h := h) x1   (show At (d + 4) MX11_alike 4 [.ref 59, .int x1, .int x2, un, un, un] [.int (b2i (r_X11_isSong x1))] h Q from ?_)
  refine At_zeq (t := 14) (pc' := 7) iX11_alike_4 (by decide) rfl (fun c4 => ?_) (fun c4 => ?_)
  · have hv := hv.2 c4
    refine At_iconst (v := (-1)) (pc' := 15) iX11_alike_14 rfl (by decide) ?_
    exact At_retI iX11_alike_15 rfl hv
  · have hv := hv.1 c4
    refine At_iload_n (pc' := 8) iX11_alike_7 rfl rfl ?_
    refine At_stat (pc' := 11) iX11_alike_8 rfl m_11_178 rfl rfl (Nat.le_of_ble_eq_true rfl) (Nat.le_of_ble_eq_true rfl) (Nat.le_of_ble_eq_true rfl) ?_
    refine c_X11_isSong (h := h) x2   (show At (d + 4) MX11_alike 11 [.ref 59, .int x1, .int x2, un, un, un] [.int (b2i (r_X11_isSong x2))] h Q from ?_)
    refine At_zne (t := 16) (pc' := 14) iX11_alike_11 (by decide) rfl (fun c11 => ?_) (fun c11 => ?_)
    · have hv := hv.1 c11
      refine At_iconst (v := nI 0) (pc' := 17) iX11_alike_16 rfl (by decide) ?_
      refine At_istore_n (L' := [.ref 59, .int x1, .int x2, .int (nI 0), un, un]) (pc' := 18) iX11_alike_17 rfl (Nat.le_of_ble_eq_true rfl) rfl ?_
      exact hv _ _
    · have hv := hv.2 c11
      refine At_iconst (v := (-1)) (pc' := 15) iX11_alike_14 rfl (by decide) ?_
      exact At_retI iX11_alike_15 rfl hv
set_option maxRecDepth 20000 in
theorem b_X11_alike_18 {d : Nat} {T : HT} (hL : Lay T) {h : Hp} (eT : h.2.2 = T) (x1 : Int32) (x2 : Int32) (x3 : Int32)  {Q : Option Value → Hp → Prop} (hv : ((x3 < (nI 256)) → ((inB ((nI 60) + x3) 4180 = true) ∧ ((inB x3 256 = true) ∧ (L_X11_alike_18 d x1 x2 (x3 + nI 1) (sI h 71 x3.toNatClampNeg (gI h 60 (((nI 60) + x3).toNatClampNeg))) Q)))) ∧ (¬ (x3 < (nI 256)) → (CallV (d + 3) MX11_singsAlone [.ref 59, .int x1] h (fun h48 => h48.2.2 = T ∧ (L_X11_alike_53 d x2 (nI 0) h48 Q))))) : L_X11_alike_18 d x1 x2 x3 h Q := by
  intro v4 v5
  refine At_iload_n (pc' := 19) iX11_alike_18 rfl rfl ?_
  refine At_sipush (v := nI 256) (pc' := 22) iX11_alike_19 rfl (by decide) ?_
  refine At_icmp_ge (t := 46) (pc' := 25) iX11_alike_22 (by decide) rfl (fun c22 => ?_) (fun c22 => ?_)
  · have hv := hv.2 c22
    refine At_aload_n (pc' := 47) iX11_alike_46 rfl rfl ?_
    refine At_iload_n (pc' := 48) iX11_alike_47 rfl rfl ?_
    refine At_virt (pc' := 51) iX11_alike_48 rfl m_11_258 rfl rfl (kdK eT (kd_59 hL)) (Nat.le_of_ble_eq_true rfl) (Nat.le_of_ble_eq_true rfl) ?_
    refine At.mono (show CallV (d + 3) MX11_singsAlone [.ref 59, .int x1] h _ from hv) ?_
    rintro _ h48 ⟨rfl, eT48, hv⟩
    show At (d + 4) MX11_alike 51 [.ref 59, .int x1, .int x2, .int x3, v4, v5] [] h48 Q
    refine At_iconst (v := nI 0) (pc' := 52) iX11_alike_51 rfl (by decide) ?_
    refine At_istore_n (L' := [.ref 59, .int x1, .int x2, .int (nI 0), v4, v5]) (pc' := 53) iX11_alike_52 rfl (Nat.le_of_ble_eq_true rfl) rfl ?_
    exact hv _ _ _
  · have hv := hv.1 c22
    refine At_aload_n (pc' := 26) iX11_alike_25 rfl rfl ?_
    refine At_getR (pc' := 29) iX11_alike_26 rfl f_11_47 (kdK eT (kd_59 hL)) (by decide) (rfH eT (rf_59_24 hL)) ?_
    refine At_iload_n (pc' := 30) iX11_alike_29 rfl rfl ?_
    refine At_aload_n (pc' := 31) iX11_alike_30 rfl rfl ?_
    refine At_getR (pc' := 34) iX11_alike_31 rfl f_11_7 (kdK eT (kd_59 hL)) (by decide) (rfH eT (rf_59_0 hL)) ?_
    refine At_bipush (v := nI 60) (pc' := 36) iX11_alike_34 rfl (by decide) ?_
    refine At_iload_n (pc' := 37) iX11_alike_36 rfl rfl ?_
    refine At_iadd (pc' := 38) iX11_alike_37 rfl ?_
    obtain ⟨hn1, hv⟩ := hv
    refine At_iald (pc' := 39) iX11_alike_38 rfl (kdH eT (kd_60 hL)) hn1 (show At (d + 4) MX11_alike 39 [.ref 59, .int x1, .int x2, .int x3, v4, v5] [.int (gI h 60 (((nI 60) + x3).toNatClampNeg)), .int x3, .ref 71] h Q from ?_)
    obtain ⟨hn2, hv⟩ := hv
    refine At_iast (pc' := 40) iX11_alike_39 rfl (kdH eT (kd_71 hL)) hn2 (show At (d + 4) MX11_alike 40 [.ref 59, .int x1, .int x2, .int x3, v4, v5] [] (sI h 71 x3.toNatClampNeg (gI h 60 (((nI 60) + x3).toNatClampNeg))) Q from ?_)
    refine At_iinc (v := nI 1) (L' := [.ref 59, .int x1, .int x2, .int (x3 + nI 1), v4, v5]) (pc' := 43) iX11_alike_40 rfl rfl (Nat.le_of_ble_eq_true rfl) (by decide) rfl ?_
    refine At_goto (t := 18) iX11_alike_43 (by decide) ?_
    exact hv _ _
set_option maxRecDepth 20000 in
theorem b_X11_alike_53 {d : Nat} {T : HT} (hL : Lay T) {h : Hp} (eT : h.2.2 = T) (x2 : Int32) (x3 : Int32)  {Q : Option Value → Hp → Prop} (hv : ((x3 < (nI 256)) → ((inB ((nI 60) + x3) 4180 = true) ∧ ((inB x3 256 = true) ∧ (L_X11_alike_53 d x2 (x3 + nI 1) (sI h 72 x3.toNatClampNeg (gI h 60 (((nI 60) + x3).toNatClampNeg))) Q)))) ∧ (¬ (x3 < (nI 256)) → (L_X11_alike_83 d x2 (nI 0) h Q))) : L_X11_alike_53 d x2 x3 h Q := by
  intro v1 v4 v5
  refine At_iload_n (pc' := 54) iX11_alike_53 rfl rfl ?_
  refine At_sipush (v := nI 256) (pc' := 57) iX11_alike_54 rfl (by decide) ?_
  refine At_icmp_ge (t := 81) (pc' := 60) iX11_alike_57 (by decide) rfl (fun c57 => ?_) (fun c57 => ?_)
  · have hv := hv.2 c57
    refine At_iconst (v := nI 0) (pc' := 82) iX11_alike_81 rfl (by decide) ?_
    refine At_istore_n (L' := [.ref 59, v1, .int x2, .int (nI 0), v4, v5]) (pc' := 83) iX11_alike_82 rfl (Nat.le_of_ble_eq_true rfl) rfl ?_
    exact hv _ _ _
  · have hv := hv.1 c57
    refine At_aload_n (pc' := 61) iX11_alike_60 rfl rfl ?_
    refine At_getR (pc' := 64) iX11_alike_61 rfl f_11_50 (kdK eT (kd_59 hL)) (by decide) (rfH eT (rf_59_25 hL)) ?_
    refine At_iload_n (pc' := 65) iX11_alike_64 rfl rfl ?_
    refine At_aload_n (pc' := 66) iX11_alike_65 rfl rfl ?_
    refine At_getR (pc' := 69) iX11_alike_66 rfl f_11_7 (kdK eT (kd_59 hL)) (by decide) (rfH eT (rf_59_0 hL)) ?_
    refine At_bipush (v := nI 60) (pc' := 71) iX11_alike_69 rfl (by decide) ?_
    refine At_iload_n (pc' := 72) iX11_alike_71 rfl rfl ?_
    refine At_iadd (pc' := 73) iX11_alike_72 rfl ?_
    obtain ⟨hn1, hv⟩ := hv
    refine At_iald (pc' := 74) iX11_alike_73 rfl (kdH eT (kd_60 hL)) hn1 (show At (d + 4) MX11_alike 74 [.ref 59, v1, .int x2, .int x3, v4, v5] [.int (gI h 60 (((nI 60) + x3).toNatClampNeg)), .int x3, .ref 72] h Q from ?_)
    obtain ⟨hn2, hv⟩ := hv
    refine At_iast (pc' := 75) iX11_alike_74 rfl (kdH eT (kd_72 hL)) hn2 (show At (d + 4) MX11_alike 75 [.ref 59, v1, .int x2, .int x3, v4, v5] [] (sI h 72 x3.toNatClampNeg (gI h 60 (((nI 60) + x3).toNatClampNeg))) Q from ?_)
    refine At_iinc (v := nI 1) (L' := [.ref 59, v1, .int x2, .int (x3 + nI 1), v4, v5]) (pc' := 78) iX11_alike_75 rfl rfl (Nat.le_of_ble_eq_true rfl) (by decide) rfl ?_
    refine At_goto (t := 53) iX11_alike_78 (by decide) ?_
    exact hv _ _ _
set_option maxRecDepth 20000 in
theorem b_X11_alike_83 {d : Nat} {T : HT} (hL : Lay T) {h : Hp} (eT : h.2.2 = T) (x2 : Int32) (x3 : Int32)  {Q : Option Value → Hp → Prop} (hv : ((x3 < (gI h 60 0)) → ((inB x3 16 = true) ∧ ((inB x3 16 = true) ∧ (L_X11_alike_83 d x2 (x3 + nI 1) (sI h 73 x3.toNatClampNeg (gI h 65 x3.toNatClampNeg)) Q)))) ∧ (¬ (x3 < (gI h 60 0)) → (CallV (d + 3) MX11_singsAlone [.ref 59, .int x2] h (fun h113 => h113.2.2 = T ∧ (L_X11_alike_124 d (nI 1) (nI 1) (nI 0) h113 Q))))) : L_X11_alike_83 d x2 x3 h Q := by
  intro v1 v4 v5
  refine At_iload_n (pc' := 84) iX11_alike_83 rfl rfl ?_
  refine At_aload_n (pc' := 85) iX11_alike_84 rfl rfl ?_
  refine At_getR (pc' := 88) iX11_alike_85 rfl f_11_7 (kdK eT (kd_59 hL)) (by decide) (rfH eT (rf_59_0 hL)) ?_
  refine At_iconst (v := nI 0) (pc' := 89) iX11_alike_88 rfl (by decide) ?_
  refine At_iald (pc' := 90) iX11_alike_89 rfl (kdH eT (kd_60 hL)) (by decide) (show At (d + 4) MX11_alike 90 [.ref 59, v1, .int x2, .int x3, v4, v5] [.int (gI h 60 0), .int x3] h Q from ?_)
  refine At_icmp_ge (t := 111) (pc' := 93) iX11_alike_90 (by decide) rfl (fun c90 => ?_) (fun c90 => ?_)
  · have hv := hv.2 c90
    refine At_aload_n (pc' := 112) iX11_alike_111 rfl rfl ?_
    refine At_iload_n (pc' := 113) iX11_alike_112 rfl rfl ?_
    refine At_virt (pc' := 116) iX11_alike_113 rfl m_11_258 rfl rfl (kdK eT (kd_59 hL)) (Nat.le_of_ble_eq_true rfl) (Nat.le_of_ble_eq_true rfl) ?_
    refine At.mono (show CallV (d + 3) MX11_singsAlone [.ref 59, .int x2] h _ from hv) ?_
    rintro _ h113 ⟨rfl, eT113, hv⟩
    show At (d + 4) MX11_alike 116 [.ref 59, v1, .int x2, .int x3, v4, v5] [] h113 Q
    refine At_iconst (v := nI 1) (pc' := 117) iX11_alike_116 rfl (by decide) ?_
    refine At_istore_n (L' := [.ref 59, v1, .int x2, .int (nI 1), v4, v5]) (pc' := 118) iX11_alike_117 rfl (Nat.le_of_ble_eq_true rfl) rfl ?_
    refine At_iconst (v := nI 1) (pc' := 119) iX11_alike_118 rfl (by decide) ?_
    refine At_istore (L' := [.ref 59, v1, .int x2, .int (nI 1), .int (nI 1), v5]) (pc' := 121) iX11_alike_119 rfl (Nat.le_of_ble_eq_true rfl) rfl ?_
    refine At_iconst (v := nI 0) (pc' := 122) iX11_alike_121 rfl (by decide) ?_
    refine At_istore (L' := [.ref 59, v1, .int x2, .int (nI 1), .int (nI 1), .int (nI 0)]) (pc' := 124) iX11_alike_122 rfl (Nat.le_of_ble_eq_true rfl) rfl ?_
    exact hv _ _
  · have hv := hv.1 c90
    refine At_aload_n (pc' := 94) iX11_alike_93 rfl rfl ?_
    refine At_getR (pc' := 97) iX11_alike_94 rfl f_11_53 (kdK eT (kd_59 hL)) (by decide) (rfH eT (rf_59_26 hL)) ?_
    refine At_iload_n (pc' := 98) iX11_alike_97 rfl rfl ?_
    refine At_aload_n (pc' := 99) iX11_alike_98 rfl rfl ?_
    refine At_getR (pc' := 102) iX11_alike_99 rfl f_11_29 (kdK eT (kd_59 hL)) (by decide) (rfH eT (rf_59_17 hL)) ?_
    refine At_iload_n (pc' := 103) iX11_alike_102 rfl rfl ?_
    obtain ⟨hn1, hv⟩ := hv
    refine At_iald (pc' := 104) iX11_alike_103 rfl (kdH eT (kd_65 hL)) hn1 (show At (d + 4) MX11_alike 104 [.ref 59, v1, .int x2, .int x3, v4, v5] [.int (gI h 65 x3.toNatClampNeg), .int x3, .ref 73] h Q from ?_)
    obtain ⟨hn2, hv⟩ := hv
    refine At_iast (pc' := 105) iX11_alike_104 rfl (kdH eT (kd_73 hL)) hn2 (show At (d + 4) MX11_alike 105 [.ref 59, v1, .int x2, .int x3, v4, v5] [] (sI h 73 x3.toNatClampNeg (gI h 65 x3.toNatClampNeg)) Q from ?_)
    refine At_iinc (v := nI 1) (L' := [.ref 59, v1, .int x2, .int (x3 + nI 1), v4, v5]) (pc' := 108) iX11_alike_105 rfl rfl (Nat.le_of_ble_eq_true rfl) (by decide) rfl ?_
    refine At_goto (t := 83) iX11_alike_108 (by decide) ?_
    exact hv _ _ _
set_option maxRecDepth 20000 in
theorem b_X11_alike_124 {d : Nat} {T : HT} (hL : Lay T) {h : Hp} (eT : h.2.2 = T) (x3 : Int32) (x4 : Int32) (x5 : Int32)  {Q : Option Value → Hp → Prop} (hv : ((x5 < (gI h 60 0)) → (((x3 = 0) → (L_X11_alike_124 d (nI 0) x4 (x5 + nI 1) h Q)) ∧ (¬ (x3 = 0) → ((inB x5 16 = true) ∧ ((inB x5 16 = true) ∧ ((((gI h 73 x5.toNatClampNeg) = (gI h 65 x5.toNatClampNeg)) → (L_X11_alike_124 d (nI 1) x4 (x5 + nI 1) h Q)) ∧ (¬ ((gI h 73 x5.toNatClampNeg) = (gI h 65 x5.toNatClampNeg)) → (L_X11_alike_124 d (nI 0) x4 (x5 + nI 1) h Q)))))))) ∧ (¬ (x5 < (gI h 60 0)) → (L_X11_alike_171 d x3 x4 (nI 0) h Q))) : L_X11_alike_124 d x3 x4 x5 h Q := by
  intro v1 v2
  refine At_iload (pc' := 126) iX11_alike_124 rfl rfl ?_
  refine At_aload_n (pc' := 127) iX11_alike_126 rfl rfl ?_
  refine At_getR (pc' := 130) iX11_alike_127 rfl f_11_7 (kdK eT (kd_59 hL)) (by decide) (rfH eT (rf_59_0 hL)) ?_
  refine At_iconst (v := nI 0) (pc' := 131) iX11_alike_130 rfl (by decide) ?_
  refine At_iald (pc' := 132) iX11_alike_131 rfl (kdH eT (kd_60 hL)) (by decide) (show At (d + 4) MX11_alike 132 [.ref 59, v1, v2, .int x3, .int x4, .int x5] [.int (gI h 60 0), .int x5] h Q from ?_)
  refine At_icmp_ge (t := 168) (pc' := 135) iX11_alike_132 (by decide) rfl (fun c132 => ?_) (fun c132 => ?_)
  · have hv := hv.2 c132
    refine At_iconst (v := nI 0) (pc' := 169) iX11_alike_168 rfl (by decide) ?_
    refine At_istore (L' := [.ref 59, v1, v2, .int x3, .int x4, .int (nI 0)]) (pc' := 171) iX11_alike_169 rfl (Nat.le_of_ble_eq_true rfl) rfl ?_
    exact hv _ _
  · have hv := hv.1 c132
    refine At_iload_n (pc' := 136) iX11_alike_135 rfl rfl ?_
    refine At_if_eq (t := 160) (pc' := 139) iX11_alike_136 (by decide) rfl (fun c136 => ?_) (fun c136 => ?_)
    · have hv := hv.1 c136
      refine At_iconst (v := nI 0) (pc' := 161) iX11_alike_160 rfl (by decide) ?_
      refine At_istore_n (L' := [.ref 59, v1, (if 0 = 0 ∧ v2.category = 2 then un else v2), .int (nI 0), .int x4, .int x5]) (pc' := 162) iX11_alike_161 rfl (Nat.le_of_ble_eq_true rfl) rfl ?_
      refine At_iinc (v := nI 1) (L' := [.ref 59, v1, (if 0 = 0 ∧ v2.category = 2 then un else v2), .int (nI 0), .int x4, .int (x5 + nI 1)]) (pc' := 165) iX11_alike_162 rfl rfl (Nat.le_of_ble_eq_true rfl) (by decide) rfl ?_
      refine At_goto (t := 124) iX11_alike_165 (by decide) ?_
      exact hv _ _
    · have hv := hv.2 c136
      refine At_aload_n (pc' := 140) iX11_alike_139 rfl rfl ?_
      refine At_getR (pc' := 143) iX11_alike_140 rfl f_11_53 (kdK eT (kd_59 hL)) (by decide) (rfH eT (rf_59_26 hL)) ?_
      refine At_iload (pc' := 145) iX11_alike_143 rfl rfl ?_
      obtain ⟨hn1, hv⟩ := hv
      refine At_iald (pc' := 146) iX11_alike_145 rfl (kdH eT (kd_73 hL)) hn1 (show At (d + 4) MX11_alike 146 [.ref 59, v1, v2, .int x3, .int x4, .int x5] [.int (gI h 73 x5.toNatClampNeg)] h Q from ?_)
      refine At_aload_n (pc' := 147) iX11_alike_146 rfl rfl ?_
      refine At_getR (pc' := 150) iX11_alike_147 rfl f_11_29 (kdK eT (kd_59 hL)) (by decide) (rfH eT (rf_59_17 hL)) ?_
      refine At_iload (pc' := 152) iX11_alike_150 rfl rfl ?_
      obtain ⟨hn2, hv⟩ := hv
      refine At_iald (pc' := 153) iX11_alike_152 rfl (kdH eT (kd_65 hL)) hn2 (show At (d + 4) MX11_alike 153 [.ref 59, v1, v2, .int x3, .int x4, .int x5] [.int (gI h 65 x5.toNatClampNeg), .int (gI h 73 x5.toNatClampNeg)] h Q from ?_)
      refine At_icmp_ne (t := 160) (pc' := 156) iX11_alike_153 (by decide) rfl (fun c153 => ?_) (fun c153 => ?_)
      · have hv := hv.2 c153
        refine At_iconst (v := nI 0) (pc' := 161) iX11_alike_160 rfl (by decide) ?_
        refine At_istore_n (L' := [.ref 59, v1, (if 0 = 0 ∧ v2.category = 2 then un else v2), .int (nI 0), .int x4, .int x5]) (pc' := 162) iX11_alike_161 rfl (Nat.le_of_ble_eq_true rfl) rfl ?_
        refine At_iinc (v := nI 1) (L' := [.ref 59, v1, (if 0 = 0 ∧ v2.category = 2 then un else v2), .int (nI 0), .int x4, .int (x5 + nI 1)]) (pc' := 165) iX11_alike_162 rfl rfl (Nat.le_of_ble_eq_true rfl) (by decide) rfl ?_
        refine At_goto (t := 124) iX11_alike_165 (by decide) ?_
        exact hv _ _
      · have hv := hv.1 c153
        refine At_iconst (v := nI 1) (pc' := 157) iX11_alike_156 rfl (by decide) ?_
        refine At_goto (t := 161) iX11_alike_157 (by decide) ?_
        refine At_istore_n (L' := [.ref 59, v1, (if 0 = 0 ∧ v2.category = 2 then un else v2), .int (nI 1), .int x4, .int x5]) (pc' := 162) iX11_alike_161 rfl (Nat.le_of_ble_eq_true rfl) rfl ?_
        refine At_iinc (v := nI 1) (L' := [.ref 59, v1, (if 0 = 0 ∧ v2.category = 2 then un else v2), .int (nI 1), .int x4, .int (x5 + nI 1)]) (pc' := 165) iX11_alike_162 rfl rfl (Nat.le_of_ble_eq_true rfl) (by decide) rfl ?_
        refine At_goto (t := 124) iX11_alike_165 (by decide) ?_
        exact hv _ _
set_option maxRecDepth 20000 in
theorem b_X11_alike_171 {d : Nat} {T : HT} (hL : Lay T) {h : Hp} (eT : h.2.2 = T) (x3 : Int32) (x4 : Int32) (x5 : Int32)  {Q : Option Value → Hp → Prop} (hv : ((x5 < (nI 256)) → (((x4 = 0) → (L_X11_alike_171 d x3 (nI 0) (x5 + nI 1) h Q)) ∧ (¬ (x4 = 0) → ((inB x5 256 = true) ∧ ((inB ((nI 60) + x5) 4180 = true) ∧ ((((gI h 72 x5.toNatClampNeg) = (gI h 60 (((nI 60) + x5).toNatClampNeg))) → (L_X11_alike_171 d x3 (nI 1) (x5 + nI 1) h Q)) ∧ (¬ ((gI h 72 x5.toNatClampNeg) = (gI h 60 (((nI 60) + x5).toNatClampNeg))) → (L_X11_alike_171 d x3 (nI 0) (x5 + nI 1) h Q)))))))) ∧ (¬ (x5 < (nI 256)) → (L_X11_alike_220 d x3 x4 (nI 0) h Q))) : L_X11_alike_171 d x3 x4 x5 h Q := by
  intro v1 v2
  refine At_iload (pc' := 173) iX11_alike_171 rfl rfl ?_
  refine At_sipush (v := nI 256) (pc' := 176) iX11_alike_173 rfl (by decide) ?_
  refine At_icmp_ge (t := 217) (pc' := 179) iX11_alike_176 (by decide) rfl (fun c176 => ?_) (fun c176 => ?_)
  · have hv := hv.2 c176
    refine At_iconst (v := nI 0) (pc' := 218) iX11_alike_217 rfl (by decide) ?_
    refine At_istore (L' := [.ref 59, v1, v2, .int x3, .int x4, .int (nI 0)]) (pc' := 220) iX11_alike_218 rfl (Nat.le_of_ble_eq_true rfl) rfl ?_
    exact hv _ _
  · have hv := hv.1 c176
    refine At_iload (pc' := 181) iX11_alike_179 rfl rfl ?_
    refine At_if_eq (t := 208) (pc' := 184) iX11_alike_181 (by decide) rfl (fun c181 => ?_) (fun c181 => ?_)
    · have hv := hv.1 c181
      refine At_iconst (v := nI 0) (pc' := 209) iX11_alike_208 rfl (by decide) ?_
      refine At_istore (L' := [.ref 59, v1, v2, .int x3, .int (nI 0), .int x5]) (pc' := 211) iX11_alike_209 rfl (Nat.le_of_ble_eq_true rfl) rfl ?_
      refine At_iinc (v := nI 1) (L' := [.ref 59, v1, v2, .int x3, .int (nI 0), .int (x5 + nI 1)]) (pc' := 214) iX11_alike_211 rfl rfl (Nat.le_of_ble_eq_true rfl) (by decide) rfl ?_
      refine At_goto (t := 171) iX11_alike_214 (by decide) ?_
      exact hv _ _
    · have hv := hv.2 c181
      refine At_aload_n (pc' := 185) iX11_alike_184 rfl rfl ?_
      refine At_getR (pc' := 188) iX11_alike_185 rfl f_11_50 (kdK eT (kd_59 hL)) (by decide) (rfH eT (rf_59_25 hL)) ?_
      refine At_iload (pc' := 190) iX11_alike_188 rfl rfl ?_
      obtain ⟨hn1, hv⟩ := hv
      refine At_iald (pc' := 191) iX11_alike_190 rfl (kdH eT (kd_72 hL)) hn1 (show At (d + 4) MX11_alike 191 [.ref 59, v1, v2, .int x3, .int x4, .int x5] [.int (gI h 72 x5.toNatClampNeg)] h Q from ?_)
      refine At_aload_n (pc' := 192) iX11_alike_191 rfl rfl ?_
      refine At_getR (pc' := 195) iX11_alike_192 rfl f_11_7 (kdK eT (kd_59 hL)) (by decide) (rfH eT (rf_59_0 hL)) ?_
      refine At_bipush (v := nI 60) (pc' := 197) iX11_alike_195 rfl (by decide) ?_
      refine At_iload (pc' := 199) iX11_alike_197 rfl rfl ?_
      refine At_iadd (pc' := 200) iX11_alike_199 rfl ?_
      obtain ⟨hn2, hv⟩ := hv
      refine At_iald (pc' := 201) iX11_alike_200 rfl (kdH eT (kd_60 hL)) hn2 (show At (d + 4) MX11_alike 201 [.ref 59, v1, v2, .int x3, .int x4, .int x5] [.int (gI h 60 (((nI 60) + x5).toNatClampNeg)), .int (gI h 72 x5.toNatClampNeg)] h Q from ?_)
      refine At_icmp_ne (t := 208) (pc' := 204) iX11_alike_201 (by decide) rfl (fun c201 => ?_) (fun c201 => ?_)
      · have hv := hv.2 c201
        refine At_iconst (v := nI 0) (pc' := 209) iX11_alike_208 rfl (by decide) ?_
        refine At_istore (L' := [.ref 59, v1, v2, .int x3, .int (nI 0), .int x5]) (pc' := 211) iX11_alike_209 rfl (Nat.le_of_ble_eq_true rfl) rfl ?_
        refine At_iinc (v := nI 1) (L' := [.ref 59, v1, v2, .int x3, .int (nI 0), .int (x5 + nI 1)]) (pc' := 214) iX11_alike_211 rfl rfl (Nat.le_of_ble_eq_true rfl) (by decide) rfl ?_
        refine At_goto (t := 171) iX11_alike_214 (by decide) ?_
        exact hv _ _
      · have hv := hv.1 c201
        refine At_iconst (v := nI 1) (pc' := 205) iX11_alike_204 rfl (by decide) ?_
        refine At_goto (t := 209) iX11_alike_205 (by decide) ?_
        refine At_istore (L' := [.ref 59, v1, v2, .int x3, .int (nI 1), .int x5]) (pc' := 211) iX11_alike_209 rfl (Nat.le_of_ble_eq_true rfl) rfl ?_
        refine At_iinc (v := nI 1) (L' := [.ref 59, v1, v2, .int x3, .int (nI 1), .int (x5 + nI 1)]) (pc' := 214) iX11_alike_211 rfl rfl (Nat.le_of_ble_eq_true rfl) (by decide) rfl ?_
        refine At_goto (t := 171) iX11_alike_214 (by decide) ?_
        exact hv _ _
set_option maxRecDepth 20000 in
theorem b_X11_alike_220 {d : Nat} {T : HT} (hL : Lay T) {h : Hp} (eT : h.2.2 = T) (x3 : Int32) (x4 : Int32) (x5 : Int32)  {Q : Option Value → Hp → Prop} (hv : ((x5 < (nI 256)) → ((inB x5 256 = true) ∧ ((inB ((nI 60) + x5) 4180 = true) ∧ (L_X11_alike_220 d x3 x4 (x5 + nI 1) (sI h 60 (((nI 60) + x5).toNatClampNeg) (gI h 71 x5.toNatClampNeg)) Q)))) ∧ (¬ (x5 < (nI 256)) → (((x3 = 0) → (Q (some (.int (nI 0))) h)) ∧ (¬ (x3 = 0) → (((x4 = 0) → (Q (some (.int (nI 1))) h)) ∧ (¬ (x4 = 0) → (Q (some (.int (nI 2))) h))))))) : L_X11_alike_220 d x3 x4 x5 h Q := by
  intro v1 v2
  refine At_iload (pc' := 222) iX11_alike_220 rfl rfl ?_
  refine At_sipush (v := nI 256) (pc' := 225) iX11_alike_222 rfl (by decide) ?_
  refine At_icmp_ge (t := 251) (pc' := 228) iX11_alike_225 (by decide) rfl (fun c225 => ?_) (fun c225 => ?_)
  · have hv := hv.2 c225
    refine At_iload_n (pc' := 252) iX11_alike_251 rfl rfl ?_
    refine At_if_ne (t := 259) (pc' := 255) iX11_alike_252 (by decide) rfl (fun c252 => ?_) (fun c252 => ?_)
    · have hv := hv.2 c252
      refine At_iload (pc' := 261) iX11_alike_259 rfl rfl ?_
      refine At_if_eq (t := 268) (pc' := 264) iX11_alike_261 (by decide) rfl (fun c261 => ?_) (fun c261 => ?_)
      · have hv := hv.1 c261
        refine At_iconst (v := nI 1) (pc' := 269) iX11_alike_268 rfl (by decide) ?_
        exact At_retI iX11_alike_269 rfl hv
      · have hv := hv.2 c261
        refine At_iconst (v := nI 2) (pc' := 265) iX11_alike_264 rfl (by decide) ?_
        refine At_goto (t := 269) iX11_alike_265 (by decide) ?_
        exact At_retI iX11_alike_269 rfl hv
    · have hv := hv.1 c252
      refine At_iconst (v := nI 0) (pc' := 256) iX11_alike_255 rfl (by decide) ?_
      refine At_goto (t := 269) iX11_alike_256 (by decide) ?_
      exact At_retI iX11_alike_269 rfl hv
  · have hv := hv.1 c225
    refine At_aload_n (pc' := 229) iX11_alike_228 rfl rfl ?_
    refine At_getR (pc' := 232) iX11_alike_229 rfl f_11_7 (kdK eT (kd_59 hL)) (by decide) (rfH eT (rf_59_0 hL)) ?_
    refine At_bipush (v := nI 60) (pc' := 234) iX11_alike_232 rfl (by decide) ?_
    refine At_iload (pc' := 236) iX11_alike_234 rfl rfl ?_
    refine At_iadd (pc' := 237) iX11_alike_236 rfl ?_
    refine At_aload_n (pc' := 238) iX11_alike_237 rfl rfl ?_
    refine At_getR (pc' := 241) iX11_alike_238 rfl f_11_47 (kdK eT (kd_59 hL)) (by decide) (rfH eT (rf_59_24 hL)) ?_
    refine At_iload (pc' := 243) iX11_alike_241 rfl rfl ?_
    obtain ⟨hn1, hv⟩ := hv
    refine At_iald (pc' := 244) iX11_alike_243 rfl (kdH eT (kd_71 hL)) hn1 (show At (d + 4) MX11_alike 244 [.ref 59, v1, v2, .int x3, .int x4, .int x5] [.int (gI h 71 x5.toNatClampNeg), .int ((nI 60) + x5), .ref 60] h Q from ?_)
    obtain ⟨hn2, hv⟩ := hv
    refine At_iast (pc' := 245) iX11_alike_244 rfl (kdH eT (kd_60 hL)) hn2 (show At (d + 4) MX11_alike 245 [.ref 59, v1, v2, .int x3, .int x4, .int x5] [] (sI h 60 (((nI 60) + x5).toNatClampNeg) (gI h 71 x5.toNatClampNeg)) Q from ?_)
    refine At_iinc (v := nI 1) (L' := [.ref 59, v1, v2, .int x3, .int x4, .int (x5 + nI 1)]) (pc' := 248) iX11_alike_245 rfl rfl (Nat.le_of_ble_eq_true rfl) (by decide) rfl ?_
    refine At_goto (t := 220) iX11_alike_248 (by decide) ?_
    exact hv _ _
-- X11_back (calls X11_sitsNow)
def L_X11_back_24 (d : Nat) (x1 : Int32) (x2 : Int32) (x3 : Int32) (h : Hp) (Q : Option Value → Hp → Prop) : Prop := At (d + 4) MX11_back 24 [.ref 59, .int x1, .int x2, .int x3] [] h Q
set_option maxRecDepth 20000 in
theorem b_X11_back {d : Nat} {T : HT} (hL : Lay T) {h : Hp} (eT : h.2.2 = T) (x1 : Int32) (x2 : Int32)  {Q : Option Value → Hp → Prop} (hv : (((r_X11_isSong x1) = true) → ((((r_X11_isIn x2 (nI 0) (nI 1)) = true) → (CallV (d + 3) MX11_sitsNow [.ref 59] h (fun h19 => h19.2.2 = T ∧ (L_X11_back_24 d x1 x2 (nI 1) h19 Q)))) ∧ (¬ ((r_X11_isIn x2 (nI 0) (nI 1)) = true) → (Q (some (.int (-1))) h)))) ∧ (¬ ((r_X11_isSong x1) = true) → (Q (some (.int (-1))) h))) : Call (d + 4) MX11_back [.ref 59, .int x1, .int x2] h Q := by
  show At (d + 4) MX11_back 0 [.ref 59, .int x1, .int x2, un] [] h Q
  refine At_iload_n (pc' := 1) iX11_back_0 rfl rfl ?_
  refine At_stat (pc' := 4) iX11_back_1 rfl m_11_178 rfl rfl (Nat.le_of_ble_eq_true rfl) (Nat.le_of_ble_eq_true rfl) (Nat.le_of_ble_eq_true rfl) ?_
  refine c_X11_isSong (h := h) x1   (show At (d + 4) MX11_back 4 [.ref 59, .int x1, .int x2, un] [.int (b2i (r_X11_isSong x1))] h Q from ?_)
  refine At_zeq (t := 16) (pc' := 7) iX11_back_4 (by decide) rfl (fun c4 => ?_) (fun c4 => ?_)
  · have hv := hv.2 c4
    refine At_iconst (v := (-1)) (pc' := 17) iX11_back_16 rfl (by decide) ?_
    exact At_retI iX11_back_17 rfl hv
  · have hv := hv.1 c4
    refine At_iload_n (pc' := 8) iX11_back_7 rfl rfl ?_
    refine At_iconst (v := nI 0) (pc' := 9) iX11_back_8 rfl (by decide) ?_
    refine At_iconst (v := nI 1) (pc' := 10) iX11_back_9 rfl (by decide) ?_
    refine At_stat (pc' := 13) iX11_back_10 rfl m_11_72 rfl rfl (Nat.le_of_ble_eq_true rfl) (Nat.le_of_ble_eq_true rfl) (Nat.le_of_ble_eq_true rfl) ?_
    refine c_X11_isIn (h := h) x2 (nI 0) (nI 1)   (show At (d + 4) MX11_back 13 [.ref 59, .int x1, .int x2, un] [.int (b2i (r_X11_isIn x2 (nI 0) (nI 1)))] h Q from ?_)
    refine At_zne (t := 18) (pc' := 16) iX11_back_13 (by decide) rfl (fun c13 => ?_) (fun c13 => ?_)
    · have hv := hv.1 c13
      refine At_aload_n (pc' := 19) iX11_back_18 rfl rfl ?_
      refine At_virt (pc' := 22) iX11_back_19 rfl m_11_202 rfl rfl (kdK eT (kd_59 hL)) (Nat.le_of_ble_eq_true rfl) (Nat.le_of_ble_eq_true rfl) ?_
      refine At.mono (show CallV (d + 3) MX11_sitsNow [.ref 59] h _ from hv) ?_
      rintro _ h19 ⟨rfl, eT19, hv⟩
      show At (d + 4) MX11_back 22 [.ref 59, .int x1, .int x2, un] [] h19 Q
      refine At_iconst (v := nI 1) (pc' := 23) iX11_back_22 rfl (by decide) ?_
      refine At_istore_n (L' := [.ref 59, .int x1, .int x2, .int (nI 1)]) (pc' := 24) iX11_back_23 rfl (Nat.le_of_ble_eq_true rfl) rfl ?_
      exact hv
    · have hv := hv.2 c13
      refine At_iconst (v := (-1)) (pc' := 17) iX11_back_16 rfl (by decide) ?_
      exact At_retI iX11_back_17 rfl hv
set_option maxRecDepth 20000 in
theorem b_X11_back_24 {d : Nat} {T : HT} (hL : Lay T) {h : Hp} (eT : h.2.2 = T) (x1 : Int32) (x2 : Int32) (x3 : Int32)  {Q : Option Value → Hp → Prop} (hv : (((nI 5040) < x3) → (Q (some (.int (-1))) h)) ∧ (¬ ((nI 5040) < x3) → (CallV (d + 3) MX11_sings [.ref 59, .int x1, .int (nI 0), .int (-1)] h (fun h35 => h35.2.2 = T ∧ (CallZ (d + 3) MX11_isAsNow [.ref 59, .int x2] h35 (fun r40 h40 => h40.2.2 = T ∧ (((r40 = true) → (Q (some (.int x3)) h40)) ∧ (¬ (r40 = true) → (L_X11_back_24 d x1 x2 (x3 + nI 1) h40 Q))))))))) : L_X11_back_24 d x1 x2 x3 h Q := by
  refine At_iload_n (pc' := 25) iX11_back_24 rfl rfl ?_
  refine At_sipush (v := nI 5040) (pc' := 28) iX11_back_25 rfl (by decide) ?_
  refine At_icmp_gt (t := 54) (pc' := 31) iX11_back_28 (by decide) rfl (fun c28 => ?_) (fun c28 => ?_)
  · have hv := hv.1 c28
    refine At_iconst (v := (-1)) (pc' := 55) iX11_back_54 rfl (by decide) ?_
    exact At_retI iX11_back_55 rfl hv
  · have hv := hv.2 c28
    refine At_aload_n (pc' := 32) iX11_back_31 rfl rfl ?_
    refine At_iload_n (pc' := 33) iX11_back_32 rfl rfl ?_
    refine At_iconst (v := nI 0) (pc' := 34) iX11_back_33 rfl (by decide) ?_
    refine At_iconst (v := (-1)) (pc' := 35) iX11_back_34 rfl (by decide) ?_
    refine At_virt (pc' := 38) iX11_back_35 rfl m_11_220 rfl rfl (kdK eT (kd_59 hL)) (Nat.le_of_ble_eq_true rfl) (Nat.le_of_ble_eq_true rfl) ?_
    refine At.mono (show CallV (d + 3) MX11_sings [.ref 59, .int x1, .int (nI 0), .int (-1)] h _ from hv) ?_
    rintro _ h35 ⟨rfl, eT35, hv⟩
    show At (d + 4) MX11_back 38 [.ref 59, .int x1, .int x2, .int x3] [] h35 Q
    refine At_aload_n (pc' := 39) iX11_back_38 rfl rfl ?_
    refine At_iload_n (pc' := 40) iX11_back_39 rfl rfl ?_
    refine At_virt (pc' := 43) iX11_back_40 rfl m_11_224 rfl rfl (kdK eT35 (kd_59 hL)) (Nat.le_of_ble_eq_true rfl) (Nat.le_of_ble_eq_true rfl) ?_
    refine At.mono (show CallZ (d + 3) MX11_isAsNow [.ref 59, .int x2] h35 _ from hv) ?_
    rintro _ h40 ⟨r40, rfl, eT40, hv⟩
    show At (d + 4) MX11_back 43 [.ref 59, .int x1, .int x2, .int x3] [.int (b2i r40)] h40 Q
    refine At_zeq (t := 48) (pc' := 46) iX11_back_43 (by decide) rfl (fun c43 => ?_) (fun c43 => ?_)
    · have hv := hv.2 c43
      refine At_iinc (v := nI 1) (L' := [.ref 59, .int x1, .int x2, .int (x3 + nI 1)]) (pc' := 51) iX11_back_48 rfl rfl (Nat.le_of_ble_eq_true rfl) (by decide) rfl ?_
      refine At_goto (t := 24) iX11_back_51 (by decide) ?_
      exact hv
    · have hv := hv.1 c43
      refine At_iload_n (pc' := 47) iX11_back_46 rfl rfl ?_
      exact At_retI iX11_back_47 rfl hv
-- X11_cut (loop)
def L_X11_cut_21 (d : Nat) (x1 : Int32) (x2 : Int32) (x3 : Int32) (x4 : Int32) (x5 : Int32) (h : Hp) (Q : Option Value → Hp → Prop) : Prop := ∀ v6 : Value, At (d + 4) MX11_cut 21 [.ref 59, .int x1, .int x2, .int x3, .int x4, .int x5, v6] [] h Q
def L_X11_cut_34 (d : Nat) (x1 : Int32) (x2 : Int32) (x3 : Int32) (x4 : Int32) (x5 : Int32) (x6 : Int32) (h : Hp) (Q : Option Value → Hp → Prop) : Prop := At (d + 4) MX11_cut 34 [.ref 59, .int x1, .int x2, .int x3, .int x4, .int x5, .int x6] [] h Q
set_option maxRecDepth 20000 in
theorem b_X11_cut {d : Nat} {T : HT} (hL : Lay T) {h : Hp} (eT : h.2.2 = T) (x1 : Int32)  {Q : Option Value → Hp → Prop} (hv : (((r_X11_isIn x1 (nI 0) (nI 2)) = true) → (L_X11_cut_21 d x1 (nI 0) (-1) (-1) (nI 0) h Q)) ∧ (¬ ((r_X11_isIn x1 (nI 0) (nI 2)) = true) → (Q (some (.int (-1))) h))) : Call (d + 4) MX11_cut [.ref 59, .int x1] h Q := by
  show At (d + 4) MX11_cut 0 [.ref 59, .int x1, un, un, un, un, un] [] h Q
  refine At_iload_n (pc' := 1) iX11_cut_0 rfl rfl ?_
  refine At_iconst (v := nI 0) (pc' := 2) iX11_cut_1 rfl (by decide) ?_
  refine At_iconst (v := nI 2) (pc' := 3) iX11_cut_2 rfl (by decide) ?_
  refine At_stat (pc' := 6) iX11_cut_3 rfl m_11_72 rfl rfl (Nat.le_of_ble_eq_true rfl) (Nat.le_of_ble_eq_true rfl) (Nat.le_of_ble_eq_true rfl) ?_
  refine c_X11_isIn (h := h) x1 (nI 0) (nI 2)   (show At (d + 4) MX11_cut 6 [.ref 59, .int x1, un, un, un, un, un] [.int (b2i (r_X11_isIn x1 (nI 0) (nI 2)))] h Q from ?_)
  refine At_zne (t := 11) (pc' := 9) iX11_cut_6 (by decide) rfl (fun c6 => ?_) (fun c6 => ?_)
  · have hv := hv.1 c6
    refine At_iconst (v := nI 0) (pc' := 12) iX11_cut_11 rfl (by decide) ?_
    refine At_istore_n (L' := [.ref 59, .int x1, .int (nI 0), un, un, un, un]) (pc' := 13) iX11_cut_12 rfl (Nat.le_of_ble_eq_true rfl) rfl ?_
    refine At_iconst (v := (-1)) (pc' := 14) iX11_cut_13 rfl (by decide) ?_
    refine At_istore_n (L' := [.ref 59, .int x1, .int (nI 0), .int (-1), un, un, un]) (pc' := 15) iX11_cut_14 rfl (Nat.le_of_ble_eq_true rfl) rfl ?_
    refine At_iconst (v := (-1)) (pc' := 16) iX11_cut_15 rfl (by decide) ?_
    refine At_istore (L' := [.ref 59, .int x1, .int (nI 0), .int (-1), .int (-1), un, un]) (pc' := 18) iX11_cut_16 rfl (Nat.le_of_ble_eq_true rfl) rfl ?_
    refine At_iconst (v := nI 0) (pc' := 19) iX11_cut_18 rfl (by decide) ?_
    refine At_istore (L' := [.ref 59, .int x1, .int (nI 0), .int (-1), .int (-1), .int (nI 0), un]) (pc' := 21) iX11_cut_19 rfl (Nat.le_of_ble_eq_true rfl) rfl ?_
    exact hv _
  · have hv := hv.2 c6
    refine At_iconst (v := (-1)) (pc' := 10) iX11_cut_9 rfl (by decide) ?_
    exact At_retI iX11_cut_10 rfl hv
set_option maxRecDepth 20000 in
theorem b_X11_cut_21 {d : Nat} {T : HT} (hL : Lay T) {h : Hp} (eT : h.2.2 = T) (x1 : Int32) (x2 : Int32) (x3 : Int32) (x4 : Int32) (x5 : Int32)  {Q : Option Value → Hp → Prop} (hv : ((x5 < (nI 4)) → (CallV (d + 3) MX11_sitsAtFirst [.ref 59] h (fun h28 => h28.2.2 = T ∧ (L_X11_cut_34 d x1 x2 x3 x4 x5 (nI 0) h28 Q)))) ∧ (¬ (x5 < (nI 4)) → (((x1 = 0) → (Q (some (.int x2)) h)) ∧ (¬ (x1 = 0) → (((x1 = (nI 1)) → (Q (some (.int x3)) h)) ∧ (¬ (x1 = (nI 1)) → (Q (some (.int x4)) h))))))) : L_X11_cut_21 d x1 x2 x3 x4 x5 h Q := by
  intro v6
  refine At_iload (pc' := 23) iX11_cut_21 rfl rfl ?_
  refine At_iconst (v := nI 4) (pc' := 24) iX11_cut_23 rfl (by decide) ?_
  refine At_icmp_ge (t := 103) (pc' := 27) iX11_cut_24 (by decide) rfl (fun c24 => ?_) (fun c24 => ?_)
  · have hv := hv.2 c24
    refine At_iload_n (pc' := 104) iX11_cut_103 rfl rfl ?_
    refine At_if_ne (t := 111) (pc' := 107) iX11_cut_104 (by decide) rfl (fun c104 => ?_) (fun c104 => ?_)
    · have hv := hv.2 c104
      refine At_iload_n (pc' := 112) iX11_cut_111 rfl rfl ?_
      refine At_iconst (v := nI 1) (pc' := 113) iX11_cut_112 rfl (by decide) ?_
      refine At_icmp_ne (t := 120) (pc' := 116) iX11_cut_113 (by decide) rfl (fun c113 => ?_) (fun c113 => ?_)
      · have hv := hv.2 c113
        refine At_iload (pc' := 122) iX11_cut_120 rfl rfl ?_
        exact At_retI iX11_cut_122 rfl hv
      · have hv := hv.1 c113
        refine At_iload_n (pc' := 117) iX11_cut_116 rfl rfl ?_
        refine At_goto (t := 122) iX11_cut_117 (by decide) ?_
        exact At_retI iX11_cut_122 rfl hv
    · have hv := hv.1 c104
      refine At_iload_n (pc' := 108) iX11_cut_107 rfl rfl ?_
      refine At_goto (t := 122) iX11_cut_108 (by decide) ?_
      exact At_retI iX11_cut_122 rfl hv
  · have hv := hv.1 c24
    refine At_aload_n (pc' := 28) iX11_cut_27 rfl rfl ?_
    refine At_virt (pc' := 31) iX11_cut_28 rfl m_11_248 rfl rfl (kdK eT (kd_59 hL)) (Nat.le_of_ble_eq_true rfl) (Nat.le_of_ble_eq_true rfl) ?_
    refine At.mono (show CallV (d + 3) MX11_sitsAtFirst [.ref 59] h _ from hv) ?_
    rintro _ h28 ⟨rfl, eT28, hv⟩
    show At (d + 4) MX11_cut 31 [.ref 59, .int x1, .int x2, .int x3, .int x4, .int x5, v6] [] h28 Q
    refine At_iconst (v := nI 0) (pc' := 32) iX11_cut_31 rfl (by decide) ?_
    refine At_istore (L' := [.ref 59, .int x1, .int x2, .int x3, .int x4, .int x5, .int (nI 0)]) (pc' := 34) iX11_cut_32 rfl (Nat.le_of_ble_eq_true rfl) rfl ?_
    exact hv
set_option maxRecDepth 20000 in
theorem b_X11_cut_34 {d : Nat} {T : HT} (hL : Lay T) {h : Hp} (eT : h.2.2 = T) (x1 : Int32) (x2 : Int32) (x3 : Int32) (x4 : Int32) (x5 : Int32) (x6 : Int32)  {Q : Option Value → Hp → Prop} (hv : (((nI 30) < x6) → (L_X11_cut_21 d x1 x2 x3 x4 (x5 + nI 1) h Q)) ∧ (¬ ((nI 30) < x6) → (((0 < x6) → (CallV (d + 3) MX11_sings [.ref 59, .int x5, .int (nI 0), .int (-1)] h (fun h51 => h51.2.2 = T ∧ (CallZ (d + 3) MX11_isWanted [.ref 59] h51 (fun r55 h55 => h55.2.2 = T ∧ (((r55 = true) → (((x2 = 0) → (((x2 = 0) → (L_X11_cut_34 d x1 (x2 + nI 1) x5 x6 x5 (x6 + nI 1) h55 Q)) ∧ (¬ (x2 = 0) → (L_X11_cut_34 d x1 (x2 + nI 1) x5 x4 x5 (x6 + nI 1) h55 Q)))) ∧ (¬ (x2 = 0) → (((x2 = 0) → (L_X11_cut_34 d x1 (x2 + nI 1) x3 x6 x5 (x6 + nI 1) h55 Q)) ∧ (¬ (x2 = 0) → (L_X11_cut_34 d x1 (x2 + nI 1) x3 x4 x5 (x6 + nI 1) h55 Q)))))) ∧ (¬ (r55 = true) → (L_X11_cut_34 d x1 x2 x3 x4 x5 (x6 + nI 1) h55 Q)))))))) ∧ (¬ (0 < x6) → (CallZ (d + 3) MX11_isWanted [.ref 59] h (fun r55 h55 => h55.2.2 = T ∧ (((r55 = true) → (((x2 = 0) → (((x2 = 0) → (L_X11_cut_34 d x1 (x2 + nI 1) x5 x6 x5 (x6 + nI 1) h55 Q)) ∧ (¬ (x2 = 0) → (L_X11_cut_34 d x1 (x2 + nI 1) x5 x4 x5 (x6 + nI 1) h55 Q)))) ∧ (¬ (x2 = 0) → (((x2 = 0) → (L_X11_cut_34 d x1 (x2 + nI 1) x3 x6 x5 (x6 + nI 1) h55 Q)) ∧ (¬ (x2 = 0) → (L_X11_cut_34 d x1 (x2 + nI 1) x3 x4 x5 (x6 + nI 1) h55 Q)))))) ∧ (¬ (r55 = true) → (L_X11_cut_34 d x1 x2 x3 x4 x5 (x6 + nI 1) h55 Q))))))))) : L_X11_cut_34 d x1 x2 x3 x4 x5 x6 h Q := by
  refine At_iload (pc' := 36) iX11_cut_34 rfl rfl ?_
  refine At_bipush (v := nI 30) (pc' := 38) iX11_cut_36 rfl (by decide) ?_
  refine At_icmp_gt (t := 97) (pc' := 41) iX11_cut_38 (by decide) rfl (fun c38 => ?_) (fun c38 => ?_)
  · have hv := hv.1 c38
    refine At_iinc (v := nI 1) (L' := [.ref 59, .int x1, .int x2, .int x3, .int x4, .int (x5 + nI 1), .int x6]) (pc' := 100) iX11_cut_97 rfl rfl (Nat.le_of_ble_eq_true rfl) (by decide) rfl ?_
    refine At_goto (t := 21) iX11_cut_100 (by decide) ?_
    exact hv _
  · have hv := hv.2 c38
    refine At_iload (pc' := 43) iX11_cut_41 rfl rfl ?_
    refine At_if_le (t := 54) (pc' := 46) iX11_cut_43 (by decide) rfl (fun c43 => ?_) (fun c43 => ?_)
    · have hv := hv.2 c43
      refine At_aload_n (pc' := 55) iX11_cut_54 rfl rfl ?_
      refine At_virt (pc' := 58) iX11_cut_55 rfl m_11_251 rfl rfl (kdK eT (kd_59 hL)) (Nat.le_of_ble_eq_true rfl) (Nat.le_of_ble_eq_true rfl) ?_
      refine At.mono (show CallZ (d + 3) MX11_isWanted [.ref 59] h _ from hv) ?_
      rintro _ h55 ⟨r55, rfl, eT55, hv⟩
      show At (d + 4) MX11_cut 58 [.ref 59, .int x1, .int x2, .int x3, .int x4, .int x5, .int x6] [.int (b2i r55)] h55 Q
      refine At_zne (t := 64) (pc' := 61) iX11_cut_58 (by decide) rfl (fun c58 => ?_) (fun c58 => ?_)
      · have hv := hv.1 c58
        refine At_iload_n (pc' := 65) iX11_cut_64 rfl rfl ?_
        refine At_if_ne (t := 73) (pc' := 68) iX11_cut_65 (by decide) rfl (fun c65 => ?_) (fun c65 => ?_)
        · have hv := hv.2 c65
          refine At_iload_n (pc' := 74) iX11_cut_73 rfl rfl ?_
          refine At_istore_n (L' := [.ref 59, .int x1, .int x2, .int x3, .int x4, .int x5, .int x6]) (pc' := 75) iX11_cut_74 rfl (Nat.le_of_ble_eq_true rfl) rfl ?_
          refine At_iload_n (pc' := 76) iX11_cut_75 rfl rfl ?_
          refine At_if_ne (t := 84) (pc' := 79) iX11_cut_76 (by decide) rfl (fun c76 => ?_) (fun c76 => ?_)
          · have hv := hv.2 c76
            refine At_iload (pc' := 86) iX11_cut_84 rfl rfl ?_
            refine At_istore (L' := [.ref 59, .int x1, .int x2, .int x3, .int x4, .int x5, .int x6]) (pc' := 88) iX11_cut_86 rfl (Nat.le_of_ble_eq_true rfl) rfl ?_
            refine At_iinc (v := nI 1) (L' := [.ref 59, .int x1, .int (x2 + nI 1), .int x3, .int x4, .int x5, .int x6]) (pc' := 91) iX11_cut_88 rfl rfl (Nat.le_of_ble_eq_true rfl) (by decide) rfl ?_
            refine At_iinc (v := nI 1) (L' := [.ref 59, .int x1, .int (x2 + nI 1), .int x3, .int x4, .int x5, .int (x6 + nI 1)]) (pc' := 94) iX11_cut_91 rfl rfl (Nat.le_of_ble_eq_true rfl) (by decide) rfl ?_
            refine At_goto (t := 34) iX11_cut_94 (by decide) ?_
            exact hv
          · have hv := hv.1 c76
            refine At_iload (pc' := 81) iX11_cut_79 rfl rfl ?_
            refine At_goto (t := 86) iX11_cut_81 (by decide) ?_
            refine At_istore (L' := [.ref 59, .int x1, .int x2, .int x3, .int x6, .int x5, .int x6]) (pc' := 88) iX11_cut_86 rfl (Nat.le_of_ble_eq_true rfl) rfl ?_
            refine At_iinc (v := nI 1) (L' := [.ref 59, .int x1, .int (x2 + nI 1), .int x3, .int x6, .int x5, .int x6]) (pc' := 91) iX11_cut_88 rfl rfl (Nat.le_of_ble_eq_true rfl) (by decide) rfl ?_
            refine At_iinc (v := nI 1) (L' := [.ref 59, .int x1, .int (x2 + nI 1), .int x3, .int x6, .int x5, .int (x6 + nI 1)]) (pc' := 94) iX11_cut_91 rfl rfl (Nat.le_of_ble_eq_true rfl) (by decide) rfl ?_
            refine At_goto (t := 34) iX11_cut_94 (by decide) ?_
            exact hv
        · have hv := hv.1 c65
          refine At_iload (pc' := 70) iX11_cut_68 rfl rfl ?_
          refine At_goto (t := 74) iX11_cut_70 (by decide) ?_
          refine At_istore_n (L' := [.ref 59, .int x1, .int x2, .int x5, .int x4, .int x5, .int x6]) (pc' := 75) iX11_cut_74 rfl (Nat.le_of_ble_eq_true rfl) rfl ?_
          refine At_iload_n (pc' := 76) iX11_cut_75 rfl rfl ?_
          refine At_if_ne (t := 84) (pc' := 79) iX11_cut_76 (by decide) rfl (fun c76 => ?_) (fun c76 => ?_)
          · have hv := hv.2 c76
            refine At_iload (pc' := 86) iX11_cut_84 rfl rfl ?_
            refine At_istore (L' := [.ref 59, .int x1, .int x2, .int x5, .int x4, .int x5, .int x6]) (pc' := 88) iX11_cut_86 rfl (Nat.le_of_ble_eq_true rfl) rfl ?_
            refine At_iinc (v := nI 1) (L' := [.ref 59, .int x1, .int (x2 + nI 1), .int x5, .int x4, .int x5, .int x6]) (pc' := 91) iX11_cut_88 rfl rfl (Nat.le_of_ble_eq_true rfl) (by decide) rfl ?_
            refine At_iinc (v := nI 1) (L' := [.ref 59, .int x1, .int (x2 + nI 1), .int x5, .int x4, .int x5, .int (x6 + nI 1)]) (pc' := 94) iX11_cut_91 rfl rfl (Nat.le_of_ble_eq_true rfl) (by decide) rfl ?_
            refine At_goto (t := 34) iX11_cut_94 (by decide) ?_
            exact hv
          · have hv := hv.1 c76
            refine At_iload (pc' := 81) iX11_cut_79 rfl rfl ?_
            refine At_goto (t := 86) iX11_cut_81 (by decide) ?_
            refine At_istore (L' := [.ref 59, .int x1, .int x2, .int x5, .int x6, .int x5, .int x6]) (pc' := 88) iX11_cut_86 rfl (Nat.le_of_ble_eq_true rfl) rfl ?_
            refine At_iinc (v := nI 1) (L' := [.ref 59, .int x1, .int (x2 + nI 1), .int x5, .int x6, .int x5, .int x6]) (pc' := 91) iX11_cut_88 rfl rfl (Nat.le_of_ble_eq_true rfl) (by decide) rfl ?_
            refine At_iinc (v := nI 1) (L' := [.ref 59, .int x1, .int (x2 + nI 1), .int x5, .int x6, .int x5, .int (x6 + nI 1)]) (pc' := 94) iX11_cut_91 rfl rfl (Nat.le_of_ble_eq_true rfl) (by decide) rfl ?_
            refine At_goto (t := 34) iX11_cut_94 (by decide) ?_
            exact hv
      · have hv := hv.2 c58
        refine At_goto (t := 91) iX11_cut_61 (by decide) ?_
        refine At_iinc (v := nI 1) (L' := [.ref 59, .int x1, .int x2, .int x3, .int x4, .int x5, .int (x6 + nI 1)]) (pc' := 94) iX11_cut_91 rfl rfl (Nat.le_of_ble_eq_true rfl) (by decide) rfl ?_
        refine At_goto (t := 34) iX11_cut_94 (by decide) ?_
        exact hv
    · have hv := hv.1 c43
      refine At_aload_n (pc' := 47) iX11_cut_46 rfl rfl ?_
      refine At_iload (pc' := 49) iX11_cut_47 rfl rfl ?_
      refine At_iconst (v := nI 0) (pc' := 50) iX11_cut_49 rfl (by decide) ?_
      refine At_iconst (v := (-1)) (pc' := 51) iX11_cut_50 rfl (by decide) ?_
      refine At_virt (pc' := 54) iX11_cut_51 rfl m_11_220 rfl rfl (kdK eT (kd_59 hL)) (Nat.le_of_ble_eq_true rfl) (Nat.le_of_ble_eq_true rfl) ?_
      refine At.mono (show CallV (d + 3) MX11_sings [.ref 59, .int x5, .int (nI 0), .int (-1)] h _ from hv) ?_
      rintro _ h51 ⟨rfl, eT51, hv⟩
      show At (d + 4) MX11_cut 54 [.ref 59, .int x1, .int x2, .int x3, .int x4, .int x5, .int x6] [] h51 Q
      refine At_aload_n (pc' := 55) iX11_cut_54 rfl rfl ?_
      refine At_virt (pc' := 58) iX11_cut_55 rfl m_11_251 rfl rfl (kdK eT51 (kd_59 hL)) (Nat.le_of_ble_eq_true rfl) (Nat.le_of_ble_eq_true rfl) ?_
      refine At.mono (show CallZ (d + 3) MX11_isWanted [.ref 59] h51 _ from hv) ?_
      rintro _ h55 ⟨r55, rfl, eT55, hv⟩
      show At (d + 4) MX11_cut 58 [.ref 59, .int x1, .int x2, .int x3, .int x4, .int x5, .int x6] [.int (b2i r55)] h55 Q
      refine At_zne (t := 64) (pc' := 61) iX11_cut_58 (by decide) rfl (fun c58 => ?_) (fun c58 => ?_)
      · have hv := hv.1 c58
        refine At_iload_n (pc' := 65) iX11_cut_64 rfl rfl ?_
        refine At_if_ne (t := 73) (pc' := 68) iX11_cut_65 (by decide) rfl (fun c65 => ?_) (fun c65 => ?_)
        · have hv := hv.2 c65
          refine At_iload_n (pc' := 74) iX11_cut_73 rfl rfl ?_
          refine At_istore_n (L' := [.ref 59, .int x1, .int x2, .int x3, .int x4, .int x5, .int x6]) (pc' := 75) iX11_cut_74 rfl (Nat.le_of_ble_eq_true rfl) rfl ?_
          refine At_iload_n (pc' := 76) iX11_cut_75 rfl rfl ?_
          refine At_if_ne (t := 84) (pc' := 79) iX11_cut_76 (by decide) rfl (fun c76 => ?_) (fun c76 => ?_)
          · have hv := hv.2 c76
            refine At_iload (pc' := 86) iX11_cut_84 rfl rfl ?_
            refine At_istore (L' := [.ref 59, .int x1, .int x2, .int x3, .int x4, .int x5, .int x6]) (pc' := 88) iX11_cut_86 rfl (Nat.le_of_ble_eq_true rfl) rfl ?_
            refine At_iinc (v := nI 1) (L' := [.ref 59, .int x1, .int (x2 + nI 1), .int x3, .int x4, .int x5, .int x6]) (pc' := 91) iX11_cut_88 rfl rfl (Nat.le_of_ble_eq_true rfl) (by decide) rfl ?_
            refine At_iinc (v := nI 1) (L' := [.ref 59, .int x1, .int (x2 + nI 1), .int x3, .int x4, .int x5, .int (x6 + nI 1)]) (pc' := 94) iX11_cut_91 rfl rfl (Nat.le_of_ble_eq_true rfl) (by decide) rfl ?_
            refine At_goto (t := 34) iX11_cut_94 (by decide) ?_
            exact hv
          · have hv := hv.1 c76
            refine At_iload (pc' := 81) iX11_cut_79 rfl rfl ?_
            refine At_goto (t := 86) iX11_cut_81 (by decide) ?_
            refine At_istore (L' := [.ref 59, .int x1, .int x2, .int x3, .int x6, .int x5, .int x6]) (pc' := 88) iX11_cut_86 rfl (Nat.le_of_ble_eq_true rfl) rfl ?_
            refine At_iinc (v := nI 1) (L' := [.ref 59, .int x1, .int (x2 + nI 1), .int x3, .int x6, .int x5, .int x6]) (pc' := 91) iX11_cut_88 rfl rfl (Nat.le_of_ble_eq_true rfl) (by decide) rfl ?_
            refine At_iinc (v := nI 1) (L' := [.ref 59, .int x1, .int (x2 + nI 1), .int x3, .int x6, .int x5, .int (x6 + nI 1)]) (pc' := 94) iX11_cut_91 rfl rfl (Nat.le_of_ble_eq_true rfl) (by decide) rfl ?_
            refine At_goto (t := 34) iX11_cut_94 (by decide) ?_
            exact hv
        · have hv := hv.1 c65
          refine At_iload (pc' := 70) iX11_cut_68 rfl rfl ?_
          refine At_goto (t := 74) iX11_cut_70 (by decide) ?_
          refine At_istore_n (L' := [.ref 59, .int x1, .int x2, .int x5, .int x4, .int x5, .int x6]) (pc' := 75) iX11_cut_74 rfl (Nat.le_of_ble_eq_true rfl) rfl ?_
          refine At_iload_n (pc' := 76) iX11_cut_75 rfl rfl ?_
          refine At_if_ne (t := 84) (pc' := 79) iX11_cut_76 (by decide) rfl (fun c76 => ?_) (fun c76 => ?_)
          · have hv := hv.2 c76
            refine At_iload (pc' := 86) iX11_cut_84 rfl rfl ?_
            refine At_istore (L' := [.ref 59, .int x1, .int x2, .int x5, .int x4, .int x5, .int x6]) (pc' := 88) iX11_cut_86 rfl (Nat.le_of_ble_eq_true rfl) rfl ?_
            refine At_iinc (v := nI 1) (L' := [.ref 59, .int x1, .int (x2 + nI 1), .int x5, .int x4, .int x5, .int x6]) (pc' := 91) iX11_cut_88 rfl rfl (Nat.le_of_ble_eq_true rfl) (by decide) rfl ?_
            refine At_iinc (v := nI 1) (L' := [.ref 59, .int x1, .int (x2 + nI 1), .int x5, .int x4, .int x5, .int (x6 + nI 1)]) (pc' := 94) iX11_cut_91 rfl rfl (Nat.le_of_ble_eq_true rfl) (by decide) rfl ?_
            refine At_goto (t := 34) iX11_cut_94 (by decide) ?_
            exact hv
          · have hv := hv.1 c76
            refine At_iload (pc' := 81) iX11_cut_79 rfl rfl ?_
            refine At_goto (t := 86) iX11_cut_81 (by decide) ?_
            refine At_istore (L' := [.ref 59, .int x1, .int x2, .int x5, .int x6, .int x5, .int x6]) (pc' := 88) iX11_cut_86 rfl (Nat.le_of_ble_eq_true rfl) rfl ?_
            refine At_iinc (v := nI 1) (L' := [.ref 59, .int x1, .int (x2 + nI 1), .int x5, .int x6, .int x5, .int x6]) (pc' := 91) iX11_cut_88 rfl rfl (Nat.le_of_ble_eq_true rfl) (by decide) rfl ?_
            refine At_iinc (v := nI 1) (L' := [.ref 59, .int x1, .int (x2 + nI 1), .int x5, .int x6, .int x5, .int (x6 + nI 1)]) (pc' := 94) iX11_cut_91 rfl rfl (Nat.le_of_ble_eq_true rfl) (by decide) rfl ?_
            refine At_goto (t := 34) iX11_cut_94 (by decide) ?_
            exact hv
      · have hv := hv.2 c58
        refine At_goto (t := 91) iX11_cut_61 (by decide) ?_
        refine At_iinc (v := nI 1) (L' := [.ref 59, .int x1, .int x2, .int x3, .int x4, .int x5, .int (x6 + nI 1)]) (pc' := 94) iX11_cut_91 rfl rfl (Nat.le_of_ble_eq_true rfl) (by decide) rfl ?_
        refine At_goto (t := 34) iX11_cut_94 (by decide) ?_
        exact hv
-- X11_isWantedBehind (calls X11_sitsAtFirst)
def L_X11_isWantedBehind_7 (d : Nat) (x1 : Int32) (x2 : Int32) (x3 : Int32) (x4 : Int32) (x5 : Int32) (h : Hp) (Q : Option Value → Hp → Prop) : Prop := At (d + 4) MX11_isWantedBehind 7 [.ref 59, .int x1, .int x2, .int x3, .int x4, .int x5] [] h Q
set_option maxRecDepth 20000 in
theorem b_X11_isWantedBehind {d : Nat} {T : HT} (hL : Lay T) {h : Hp} (eT : h.2.2 = T) (x1 : Int32) (x2 : Int32) (x3 : Int32) (x4 : Int32)  {Q : Option Value → Hp → Prop} (hv : CallV (d + 3) MX11_sitsAtFirst [.ref 59] h (fun h1 => h1.2.2 = T ∧ (L_X11_isWantedBehind_7 d x1 x2 x3 x4 (nI 1) h1 Q))) : Call (d + 4) MX11_isWantedBehind [.ref 59, .int x1, .int x2, .int x3, .int x4] h Q := by
  show At (d + 4) MX11_isWantedBehind 0 [.ref 59, .int x1, .int x2, .int x3, .int x4, un] [] h Q
  refine At_aload_n (pc' := 1) iX11_isWantedBehind_0 rfl rfl ?_
  refine At_virt (pc' := 4) iX11_isWantedBehind_1 rfl m_11_248 rfl rfl (kdK eT (kd_59 hL)) (Nat.le_of_ble_eq_true rfl) (Nat.le_of_ble_eq_true rfl) ?_
  refine At.mono (show CallV (d + 3) MX11_sitsAtFirst [.ref 59] h _ from hv) ?_
  rintro _ h1 ⟨rfl, eT1, hv⟩
  show At (d + 4) MX11_isWantedBehind 4 [.ref 59, .int x1, .int x2, .int x3, .int x4, un] [] h1 Q
  refine At_iconst (v := nI 1) (pc' := 5) iX11_isWantedBehind_4 rfl (by decide) ?_
  refine At_istore (L' := [.ref 59, .int x1, .int x2, .int x3, .int x4, .int (nI 1)]) (pc' := 7) iX11_isWantedBehind_5 rfl (Nat.le_of_ble_eq_true rfl) rfl ?_
  exact hv
set_option maxRecDepth 20000 in
theorem b_X11_isWantedBehind_7 {d : Nat} {T : HT} (hL : Lay T) {h : Hp} (eT : h.2.2 = T) (x1 : Int32) (x2 : Int32) (x3 : Int32) (x4 : Int32) (x5 : Int32)  {Q : Option Value → Hp → Prop} (hv : ((x2 < x5) → (CallZ (d + 3) MX11_isWanted [.ref 59] h (fun r38 h38 => h38.2.2 = T ∧ (Q (some (.int (b2i r38))) h38)))) ∧ (¬ (x2 < x5) → (((x5 < x4) → (CallV (d + 3) MX11_sings [.ref 59, .int x1, .int (nI 0), .int (-1)] h (fun h28 => h28.2.2 = T ∧ (L_X11_isWantedBehind_7 d x1 x2 x3 x4 (x5 + nI 1) h28 Q)))) ∧ (¬ (x5 < x4) → (CallV (d + 3) MX11_sings [.ref 59, .int x1, .int (nI 0), .int x3] h (fun h28 => h28.2.2 = T ∧ (L_X11_isWantedBehind_7 d x1 x2 x3 x4 (x5 + nI 1) h28 Q))))))) : L_X11_isWantedBehind_7 d x1 x2 x3 x4 x5 h Q := by
  refine At_iload (pc' := 9) iX11_isWantedBehind_7 rfl rfl ?_
  refine At_iload_n (pc' := 10) iX11_isWantedBehind_9 rfl rfl ?_
  refine At_icmp_gt (t := 37) (pc' := 13) iX11_isWantedBehind_10 (by decide) rfl (fun c10 => ?_) (fun c10 => ?_)
  · have hv := hv.1 c10
    refine At_aload_n (pc' := 38) iX11_isWantedBehind_37 rfl rfl ?_
    refine At_virt (pc' := 41) iX11_isWantedBehind_38 rfl m_11_251 rfl rfl (kdK eT (kd_59 hL)) (Nat.le_of_ble_eq_true rfl) (Nat.le_of_ble_eq_true rfl) ?_
    refine At.mono (show CallZ (d + 3) MX11_isWanted [.ref 59] h _ from hv) ?_
    rintro _ h38 ⟨r38, rfl, eT38, hv⟩
    show At (d + 4) MX11_isWantedBehind 41 [.ref 59, .int x1, .int x2, .int x3, .int x4, .int x5] [.int (b2i r38)] h38 Q
    exact At_retZ iX11_isWantedBehind_41 rfl (b2i_01 _) hv
  · have hv := hv.2 c10
    refine At_aload_n (pc' := 14) iX11_isWantedBehind_13 rfl rfl ?_
    refine At_iload_n (pc' := 15) iX11_isWantedBehind_14 rfl rfl ?_
    refine At_iconst (v := nI 0) (pc' := 16) iX11_isWantedBehind_15 rfl (by decide) ?_
    refine At_iload (pc' := 18) iX11_isWantedBehind_16 rfl rfl ?_
    refine At_iload (pc' := 20) iX11_isWantedBehind_18 rfl rfl ?_
    refine At_icmp_ge (t := 27) (pc' := 23) iX11_isWantedBehind_20 (by decide) rfl (fun c20 => ?_) (fun c20 => ?_)
    · have hv := hv.2 c20
      refine At_iload_n (pc' := 28) iX11_isWantedBehind_27 rfl rfl ?_
      refine At_virt (pc' := 31) iX11_isWantedBehind_28 rfl m_11_220 rfl rfl (kdK eT (kd_59 hL)) (Nat.le_of_ble_eq_true rfl) (Nat.le_of_ble_eq_true rfl) ?_
      refine At.mono (show CallV (d + 3) MX11_sings [.ref 59, .int x1, .int (nI 0), .int x3] h _ from hv) ?_
      rintro _ h28 ⟨rfl, eT28, hv⟩
      show At (d + 4) MX11_isWantedBehind 31 [.ref 59, .int x1, .int x2, .int x3, .int x4, .int x5] [] h28 Q
      refine At_iinc (v := nI 1) (L' := [.ref 59, .int x1, .int x2, .int x3, .int x4, .int (x5 + nI 1)]) (pc' := 34) iX11_isWantedBehind_31 rfl rfl (Nat.le_of_ble_eq_true rfl) (by decide) rfl ?_
      refine At_goto (t := 7) iX11_isWantedBehind_34 (by decide) ?_
      exact hv
    · have hv := hv.1 c20
      refine At_iconst (v := (-1)) (pc' := 24) iX11_isWantedBehind_23 rfl (by decide) ?_
      refine At_goto (t := 28) iX11_isWantedBehind_24 (by decide) ?_
      refine At_virt (pc' := 31) iX11_isWantedBehind_28 rfl m_11_220 rfl rfl (kdK eT (kd_59 hL)) (Nat.le_of_ble_eq_true rfl) (Nat.le_of_ble_eq_true rfl) ?_
      refine At.mono (show CallV (d + 3) MX11_sings [.ref 59, .int x1, .int (nI 0), .int (-1)] h _ from hv) ?_
      rintro _ h28 ⟨rfl, eT28, hv⟩
      show At (d + 4) MX11_isWantedBehind 31 [.ref 59, .int x1, .int x2, .int x3, .int x4, .int x5] [] h28 Q
      refine At_iinc (v := nI 1) (L' := [.ref 59, .int x1, .int x2, .int x3, .int x4, .int (x5 + nI 1)]) (pc' := 34) iX11_isWantedBehind_31 rfl rfl (Nat.le_of_ble_eq_true rfl) (by decide) rfl ?_
      refine At_goto (t := 7) iX11_isWantedBehind_34 (by decide) ?_
      exact hv
-- X11_sing (loop)
def L_X11_sing_24 (d : Nat) (x1 : Int32) (x2 : Int32) (x3 : Int32) (x4 : Int32) (h : Hp) (Q : Option Value → Hp → Prop) : Prop := At (d + 4) MX11_sing 24 [.ref 59, .int x1, .int x2, .int x3, .int x4] [] h Q
set_option maxRecDepth 20000 in
theorem b_X11_sing {d : Nat} {T : HT} (hL : Lay T) {h : Hp} (eT : h.2.2 = T) (x1 : Int32) (x2 : Int32)  {Q : Option Value → Hp → Prop} (hv : (((r_X11_isSong x1) = true) → ((((r_X11_isIn x2 (nI 1) (nI 50)) = true) → (L_X11_sing_24 d x1 x2 (nI 0) (nI 0) h Q)) ∧ (¬ ((r_X11_isIn x2 (nI 1) (nI 50)) = true) → (Q (some (.int (-1))) h)))) ∧ (¬ ((r_X11_isSong x1) = true) → (Q (some (.int (-1))) h))) : Call (d + 4) MX11_sing [.ref 59, .int x1, .int x2] h Q := by
  show At (d + 4) MX11_sing 0 [.ref 59, .int x1, .int x2, un, un] [] h Q
  refine At_iload_n (pc' := 1) iX11_sing_0 rfl rfl ?_
  refine At_stat (pc' := 4) iX11_sing_1 rfl m_11_178 rfl rfl (Nat.le_of_ble_eq_true rfl) (Nat.le_of_ble_eq_true rfl) (Nat.le_of_ble_eq_true rfl) ?_
  refine c_X11_isSong (h := h) x1   (show At (d + 4) MX11_sing 4 [.ref 59, .int x1, .int x2, un, un] [.int (b2i (r_X11_isSong x1))] h Q from ?_)
  refine At_zeq (t := 17) (pc' := 7) iX11_sing_4 (by decide) rfl (fun c4 => ?_) (fun c4 => ?_)
  · have hv := hv.2 c4
    refine At_iconst (v := (-1)) (pc' := 18) iX11_sing_17 rfl (by decide) ?_
    exact At_retI iX11_sing_18 rfl hv
  · have hv := hv.1 c4
    refine At_iload_n (pc' := 8) iX11_sing_7 rfl rfl ?_
    refine At_iconst (v := nI 1) (pc' := 9) iX11_sing_8 rfl (by decide) ?_
    refine At_bipush (v := nI 50) (pc' := 11) iX11_sing_9 rfl (by decide) ?_
    refine At_stat (pc' := 14) iX11_sing_11 rfl m_11_72 rfl rfl (Nat.le_of_ble_eq_true rfl) (Nat.le_of_ble_eq_true rfl) (Nat.le_of_ble_eq_true rfl) ?_
    refine c_X11_isIn (h := h) x2 (nI 1) (nI 50)   (show At (d + 4) MX11_sing 14 [.ref 59, .int x1, .int x2, un, un] [.int (b2i (r_X11_isIn x2 (nI 1) (nI 50)))] h Q from ?_)
    refine At_zne (t := 19) (pc' := 17) iX11_sing_14 (by decide) rfl (fun c14 => ?_) (fun c14 => ?_)
    · have hv := hv.1 c14
      refine At_iconst (v := nI 0) (pc' := 20) iX11_sing_19 rfl (by decide) ?_
      refine At_istore_n (L' := [.ref 59, .int x1, .int x2, .int (nI 0), un]) (pc' := 21) iX11_sing_20 rfl (Nat.le_of_ble_eq_true rfl) rfl ?_
      refine At_iconst (v := nI 0) (pc' := 22) iX11_sing_21 rfl (by decide) ?_
      refine At_istore (L' := [.ref 59, .int x1, .int x2, .int (nI 0), .int (nI 0)]) (pc' := 24) iX11_sing_22 rfl (Nat.le_of_ble_eq_true rfl) rfl ?_
      exact hv
    · have hv := hv.2 c14
      refine At_iconst (v := (-1)) (pc' := 18) iX11_sing_17 rfl (by decide) ?_
      exact At_retI iX11_sing_18 rfl hv
set_option maxRecDepth 20000 in
theorem b_X11_sing_24 {d : Nat} {T : HT} (hL : Lay T) {h : Hp} (eT : h.2.2 = T) (x1 : Int32) (x2 : Int32) (x3 : Int32) (x4 : Int32)  {Q : Option Value → Hp → Prop} (hv : ((x4 < x2) → (CallV (d + 3) MX11_keeps [.ref 59] h (fun h31 => h31.2.2 = T ∧ (CallI (d + 3) MX11_singsTruly [.ref 59, .int x1] h31 (fun r37 h37 => h37.2.2 = T ∧ (L_X11_sing_24 d x1 x2 (x3 + r37) (x4 + nI 1) h37 Q)))))) ∧ (¬ (x4 < x2) → (Q (some (.int x3)) h))) : L_X11_sing_24 d x1 x2 x3 x4 h Q := by
  refine At_iload (pc' := 26) iX11_sing_24 rfl rfl ?_
  refine At_iload_n (pc' := 27) iX11_sing_26 rfl rfl ?_
  refine At_icmp_ge (t := 48) (pc' := 30) iX11_sing_27 (by decide) rfl (fun c27 => ?_) (fun c27 => ?_)
  · have hv := hv.2 c27
    refine At_iload_n (pc' := 49) iX11_sing_48 rfl rfl ?_
    exact At_retI iX11_sing_49 rfl hv
  · have hv := hv.1 c27
    refine At_aload_n (pc' := 31) iX11_sing_30 rfl rfl ?_
    refine At_virt (pc' := 34) iX11_sing_31 rfl m_11_211 rfl rfl (kdK eT (kd_59 hL)) (Nat.le_of_ble_eq_true rfl) (Nat.le_of_ble_eq_true rfl) ?_
    refine At.mono (show CallV (d + 3) MX11_keeps [.ref 59] h _ from hv) ?_
    rintro _ h31 ⟨rfl, eT31, hv⟩
    show At (d + 4) MX11_sing 34 [.ref 59, .int x1, .int x2, .int x3, .int x4] [] h31 Q
    refine At_iload_n (pc' := 35) iX11_sing_34 rfl rfl ?_
    refine At_aload_n (pc' := 36) iX11_sing_35 rfl rfl ?_
    refine At_iload_n (pc' := 37) iX11_sing_36 rfl rfl ?_
    refine At_virt (pc' := 40) iX11_sing_37 rfl m_11_214 rfl rfl (kdK eT31 (kd_59 hL)) (Nat.le_of_ble_eq_true rfl) (Nat.le_of_ble_eq_true rfl) ?_
    refine At.mono (show CallI (d + 3) MX11_singsTruly [.ref 59, .int x1] h31 _ from hv) ?_
    rintro _ h37 ⟨r37, rfl, eT37, hv⟩
    show At (d + 4) MX11_sing 40 [.ref 59, .int x1, .int x2, .int x3, .int x4] [.int r37, .int x3] h37 Q
    refine At_iadd (pc' := 41) iX11_sing_40 rfl ?_
    refine At_istore_n (L' := [.ref 59, .int x1, .int x2, .int (x3 + r37), .int x4]) (pc' := 42) iX11_sing_41 rfl (Nat.le_of_ble_eq_true rfl) rfl ?_
    refine At_iinc (v := nI 1) (L' := [.ref 59, .int x1, .int x2, .int (x3 + r37), .int (x4 + nI 1)]) (pc' := 45) iX11_sing_42 rfl rfl (Nat.le_of_ble_eq_true rfl) (by decide) rfl ?_
    refine At_goto (t := 24) iX11_sing_45 (by decide) ?_
    exact hv
-- X11_someTimes (calls X11_next0)
def L_X11_someTimes_80 (d : Nat) (x2 : Int32) (x3 : Int32) (x4 : Int32) (x5 : Int32) (h : Hp) (Q : Option Value → Hp → Prop) : Prop := ∀ v1 v6 : Value, At (d + 4) MX11_someTimes 80 [.ref 59, v1, .int x2, .int x3, .int x4, .int x5, v6] [] h Q
set_option maxRecDepth 20000 in
theorem b_X11_someTimes {d : Nat} {T : HT} (hL : Lay T) {h : Hp} (eT : h.2.2 = T) (x1 : Int32)  {Q : Option Value → Hp → Prop} (hv : ((x1 = (nI 4)) → (Q (some (.int (b2i (r_X11_bad (nI 3) h)))) (w_X11_bad (nI 3) h))) ∧ (¬ (x1 = (nI 4)) → (CallV (d + 3) MX11_next0 [.ref 59] h (fun h12 => h12.2.2 = T ∧ (CallZ (d + 3) MX11_number [.ref 59, .int (nI 1), .int (nI 9)] h12 (fun r24 h24 => h24.2.2 = T ∧ (((r24 = true) → (CallZ (d + 3) MX11_need [.ref 59, .int (nI 140)] h24 (fun r34 h34 => h34.2.2 = T ∧ (((r34 = true) → (CallZ (d + 3) MX11_someSteps [.ref 59, .int (x1 + (nI 1))] h34 (fun r51 h51 => h51.2.2 = T ∧ (((r51 = true) → (CallZ (d + 3) MX11_need [.ref 59, .int (nI 141)] h51 (fun r61 h61 => h61.2.2 = T ∧ (((r61 = true) → (L_X11_someTimes_80 d (gI h12 59 12) (gI h34 59 7) ((gI h61 59 7) - (gI h34 59 7)) (nI 0) h61 Q)) ∧ (¬ (r61 = true) → (Q (some (.int (b2i false))) h61)))))) ∧ (¬ (r51 = true) → (Q (some (.int (b2i false))) h51)))))) ∧ (¬ (r34 = true) → (Q (some (.int (b2i false))) h34)))))) ∧ (¬ (r24 = true) → (Q (some (.int (b2i false))) h24))))))))) : Call (d + 4) MX11_someTimes [.ref 59, .int x1] h Q := by
  show At (d + 4) MX11_someTimes 0 [.ref 59, .int x1, un, un, un, un, un] [] h Q
  refine At_iload_n (pc' := 1) iX11_someTimes_0 rfl rfl ?_
  refine At_iconst (v := nI 4) (pc' := 2) iX11_someTimes_1 rfl (by decide) ?_
  refine At_icmp_ne (t := 11) (pc' := 5) iX11_someTimes_2 (by decide) rfl (fun c2 => ?_) (fun c2 => ?_)
  · have hv := hv.2 c2
    refine At_aload_n (pc' := 12) iX11_someTimes_11 rfl rfl ?_
    refine At_virt (pc' := 15) iX11_someTimes_12 rfl m_11_145 rfl rfl (kdK eT (kd_59 hL)) (Nat.le_of_ble_eq_true rfl) (Nat.le_of_ble_eq_true rfl) ?_
    refine At.mono (show CallV (d + 3) MX11_next0 [.ref 59] h _ from hv) ?_
    rintro _ h12 ⟨rfl, eT12, hv⟩
    show At (d + 4) MX11_someTimes 15 [.ref 59, .int x1, un, un, un, un, un] [] h12 Q
    refine At_aload_n (pc' := 16) iX11_someTimes_15 rfl rfl ?_
    refine At_getI (pc' := 19) iX11_someTimes_16 rfl f_11_133 (kdK eT12 (kd_59 hL)) (by decide) ?_
    refine At_istore_n (L' := [.ref 59, .int x1, .int (gI h12 59 12), un, un, un, un]) (pc' := 20) iX11_someTimes_19 rfl (Nat.le_of_ble_eq_true rfl) rfl ?_
    refine At_aload_n (pc' := 21) iX11_someTimes_20 rfl rfl ?_
    refine At_iconst (v := nI 1) (pc' := 22) iX11_someTimes_21 rfl (by decide) ?_
    refine At_bipush (v := nI 9) (pc' := 24) iX11_someTimes_22 rfl (by decide) ?_
    refine At_virt (pc' := 27) iX11_someTimes_24 rfl m_11_151 rfl rfl (kdK eT12 (kd_59 hL)) (Nat.le_of_ble_eq_true rfl) (Nat.le_of_ble_eq_true rfl) ?_
    refine At.mono (show CallZ (d + 3) MX11_number [.ref 59, .int (nI 1), .int (nI 9)] h12 _ from hv) ?_
    rintro _ h24 ⟨r24, rfl, eT24, hv⟩
    show At (d + 4) MX11_someTimes 27 [.ref 59, .int x1, .int (gI h12 59 12), un, un, un, un] [.int (b2i r24)] h24 Q
    refine At_zeq (t := 40) (pc' := 30) iX11_someTimes_27 (by decide) rfl (fun c27 => ?_) (fun c27 => ?_)
    · have hv := hv.2 c27
      refine At_iconst (v := nI 0) (pc' := 41) iX11_someTimes_40 rfl (by decide) ?_
      exact At_retF iX11_someTimes_41 rfl hv
    · have hv := hv.1 c27
      refine At_aload_n (pc' := 31) iX11_someTimes_30 rfl rfl ?_
      refine At_sipush (v := nI 140) (pc' := 34) iX11_someTimes_31 rfl (by decide) ?_
      refine At_virt (pc' := 37) iX11_someTimes_34 rfl m_11_155 rfl rfl (kdK eT24 (kd_59 hL)) (Nat.le_of_ble_eq_true rfl) (Nat.le_of_ble_eq_true rfl) ?_
      refine At.mono (show CallZ (d + 3) MX11_need [.ref 59, .int (nI 140)] h24 _ from hv) ?_
      rintro _ h34 ⟨r34, rfl, eT34, hv⟩
      show At (d + 4) MX11_someTimes 37 [.ref 59, .int x1, .int (gI h12 59 12), un, un, un, un] [.int (b2i r34)] h34 Q
      refine At_zne (t := 42) (pc' := 40) iX11_someTimes_37 (by decide) rfl (fun c37 => ?_) (fun c37 => ?_)
      · have hv := hv.1 c37
        refine At_aload_n (pc' := 43) iX11_someTimes_42 rfl rfl ?_
        refine At_getI (pc' := 46) iX11_someTimes_43 rfl f_11_148 (kdK eT34 (kd_59 hL)) (by decide) ?_
        refine At_istore_n (L' := [.ref 59, .int x1, .int (gI h12 59 12), .int (gI h34 59 7), un, un, un]) (pc' := 47) iX11_someTimes_46 rfl (Nat.le_of_ble_eq_true rfl) rfl ?_
        refine At_aload_n (pc' := 48) iX11_someTimes_47 rfl rfl ?_
        refine At_iload_n (pc' := 49) iX11_someTimes_48 rfl rfl ?_
        refine At_iconst (v := nI 1) (pc' := 50) iX11_someTimes_49 rfl (by decide) ?_
        refine At_iadd (pc' := 51) iX11_someTimes_50 rfl ?_
        refine At_virt (pc' := 54) iX11_someTimes_51 rfl m_11_162 rfl rfl (kdK eT34 (kd_59 hL)) (Nat.le_of_ble_eq_true rfl) (Nat.le_of_ble_eq_true rfl) ?_
        refine At.mono (show CallZ (d + 3) MX11_someSteps [.ref 59, .int (x1 + (nI 1))] h34 _ from hv) ?_
        rintro _ h51 ⟨r51, rfl, eT51, hv⟩
        show At (d + 4) MX11_someTimes 54 [.ref 59, .int x1, .int (gI h12 59 12), .int (gI h34 59 7), un, un, un] [.int (b2i r51)] h51 Q
        refine At_zeq (t := 67) (pc' := 57) iX11_someTimes_54 (by decide) rfl (fun c54 => ?_) (fun c54 => ?_)
        · have hv := hv.2 c54
          refine At_iconst (v := nI 0) (pc' := 68) iX11_someTimes_67 rfl (by decide) ?_
          exact At_retF iX11_someTimes_68 rfl hv
        · have hv := hv.1 c54
          refine At_aload_n (pc' := 58) iX11_someTimes_57 rfl rfl ?_
          refine At_sipush (v := nI 141) (pc' := 61) iX11_someTimes_58 rfl (by decide) ?_
          refine At_virt (pc' := 64) iX11_someTimes_61 rfl m_11_155 rfl rfl (kdK eT51 (kd_59 hL)) (Nat.le_of_ble_eq_true rfl) (Nat.le_of_ble_eq_true rfl) ?_
          refine At.mono (show CallZ (d + 3) MX11_need [.ref 59, .int (nI 141)] h51 _ from hv) ?_
          rintro _ h61 ⟨r61, rfl, eT61, hv⟩
          show At (d + 4) MX11_someTimes 64 [.ref 59, .int x1, .int (gI h12 59 12), .int (gI h34 59 7), un, un, un] [.int (b2i r61)] h61 Q
          refine At_zne (t := 69) (pc' := 67) iX11_someTimes_64 (by decide) rfl (fun c64 => ?_) (fun c64 => ?_)
          · have hv := hv.1 c64
            refine At_aload_n (pc' := 70) iX11_someTimes_69 rfl rfl ?_
            refine At_getI (pc' := 73) iX11_someTimes_70 rfl f_11_148 (kdK eT61 (kd_59 hL)) (by decide) ?_
            refine At_iload_n (pc' := 74) iX11_someTimes_73 rfl rfl ?_
            refine At_isub (pc' := 75) iX11_someTimes_74 rfl ?_
            refine At_istore (L' := [.ref 59, .int x1, .int (gI h12 59 12), .int (gI h34 59 7), .int ((gI h61 59 7) - (gI h34 59 7)), un, un]) (pc' := 77) iX11_someTimes_75 rfl (Nat.le_of_ble_eq_true rfl) rfl ?_
            refine At_iconst (v := nI 0) (pc' := 78) iX11_someTimes_77 rfl (by decide) ?_
            refine At_istore (L' := [.ref 59, .int x1, .int (gI h12 59 12), .int (gI h34 59 7), .int ((gI h61 59 7) - (gI h34 59 7)), .int (nI 0), un]) (pc' := 80) iX11_someTimes_78 rfl (Nat.le_of_ble_eq_true rfl) rfl ?_
            exact hv _ _
          · have hv := hv.2 c64
            refine At_iconst (v := nI 0) (pc' := 68) iX11_someTimes_67 rfl (by decide) ?_
            exact At_retF iX11_someTimes_68 rfl hv
      · have hv := hv.2 c37
        refine At_iconst (v := nI 0) (pc' := 41) iX11_someTimes_40 rfl (by decide) ?_
        exact At_retF iX11_someTimes_41 rfl hv
  · have hv := hv.1 c2
    refine At_aload_n (pc' := 6) iX11_someTimes_5 rfl rfl ?_
    refine At_iconst (v := nI 3) (pc' := 7) iX11_someTimes_6 rfl (by decide) ?_
    refine At_virt (pc' := 10) iX11_someTimes_7 rfl m_11_142 rfl rfl (kdK eT (kd_59 hL)) (Nat.le_of_ble_eq_true rfl) (Nat.le_of_ble_eq_true rfl) ?_
    refine c_X11_bad (h := h) hL eT (nI 3)   (show At (d + 4) MX11_someTimes 10 [.ref 59, .int x1, un, un, un, un, un] [.int (b2i (r_X11_bad (nI 3) h))] (w_X11_bad (nI 3) h) Q from ?_)
    exact At_retZ iX11_someTimes_10 rfl (b2i_01 _) hv
set_option maxRecDepth 20000 in
theorem b_X11_someTimes_80 {d : Nat} {T : HT} (hL : Lay T) {h : Hp} (eT : h.2.2 = T) (x2 : Int32) (x3 : Int32) (x4 : Int32) (x5 : Int32)  {Q : Option Value → Hp → Prop} (hv : ((x5 < (x4 * (x2 - (nI 1)))) → ((((gI h 59 7) < (nI 200)) → ((inB ((nI 4) * (x3 + x5)) 800 = true) ∧ ((inB (((nI 4) * (x3 + x5)) + (nI 1)) 800 = true) ∧ ((inB (((nI 4) * (x3 + x5)) + (nI 2)) 800 = true) ∧ ((inB (((nI 4) * (x3 + x5)) + (nI 3)) 800 = true) ∧ ((p_X11_puts (gI h 63 (((nI 4) * (x3 + x5)).toNatClampNeg)) (gI h 63 ((((nI 4) * (x3 + x5)) + (nI 1)).toNatClampNeg)) (gI h 63 ((((nI 4) * (x3 + x5)) + (nI 2)).toNatClampNeg)) (gI h 63 ((((nI 4) * (x3 + x5)) + (nI 3)).toNatClampNeg)) h) ∧ (L_X11_someTimes_80 d x2 x3 x4 (x5 + nI 1) (w_X11_puts (gI h 63 (((nI 4) * (x3 + x5)).toNatClampNeg)) (gI h 63 ((((nI 4) * (x3 + x5)) + (nI 1)).toNatClampNeg)) (gI h 63 ((((nI 4) * (x3 + x5)) + (nI 2)).toNatClampNeg)) (gI h 63 ((((nI 4) * (x3 + x5)) + (nI 3)).toNatClampNeg)) h) Q))))))) ∧ (¬ ((gI h 59 7) < (nI 200)) → (L_X11_someTimes_80 d x2 x3 x4 (x5 + nI 1) (sI h 59 7 ((gI h 59 7) + (nI 1))) Q)))) ∧ (¬ (x5 < (x4 * (x2 - (nI 1)))) → (Q (some (.int (b2i true))) h))) : L_X11_someTimes_80 d x2 x3 x4 x5 h Q := by
  intro v1 v6
  refine At_iload (pc' := 82) iX11_someTimes_80 rfl rfl ?_
  refine At_iload (pc' := 84) iX11_someTimes_82 rfl rfl ?_
  refine At_iload_n (pc' := 85) iX11_someTimes_84 rfl rfl ?_
  refine At_iconst (v := nI 1) (pc' := 86) iX11_someTimes_85 rfl (by decide) ?_
  refine At_isub (pc' := 87) iX11_someTimes_86 rfl ?_
  refine At_imul (pc' := 88) iX11_someTimes_87 rfl ?_
  refine At_icmp_ge (t := 166) (pc' := 91) iX11_someTimes_88 (by decide) rfl (fun c88 => ?_) (fun c88 => ?_)
  · have hv := hv.2 c88
    refine At_iconst (v := nI 1) (pc' := 167) iX11_someTimes_166 rfl (by decide) ?_
    exact At_retT iX11_someTimes_167 rfl hv
  · have hv := hv.1 c88
    refine At_iconst (v := nI 4) (pc' := 92) iX11_someTimes_91 rfl (by decide) ?_
    refine At_iload_n (pc' := 93) iX11_someTimes_92 rfl rfl ?_
    refine At_iload (pc' := 95) iX11_someTimes_93 rfl rfl ?_
    refine At_iadd (pc' := 96) iX11_someTimes_95 rfl ?_
    refine At_imul (pc' := 97) iX11_someTimes_96 rfl ?_
    refine At_istore (L' := [.ref 59, v1, .int x2, .int x3, .int x4, .int x5, .int ((nI 4) * (x3 + x5))]) (pc' := 99) iX11_someTimes_97 rfl (Nat.le_of_ble_eq_true rfl) rfl ?_
    refine At_aload_n (pc' := 100) iX11_someTimes_99 rfl rfl ?_
    refine At_getI (pc' := 103) iX11_someTimes_100 rfl f_11_148 (kdK eT (kd_59 hL)) (by decide) ?_
    refine At_sipush (v := nI 200) (pc' := 106) iX11_someTimes_103 rfl (by decide) ?_
    refine At_icmp_ge (t := 150) (pc' := 109) iX11_someTimes_106 (by decide) rfl (fun c106 => ?_) (fun c106 => ?_)
    · have hv := hv.2 c106
      refine At_aload_n (pc' := 151) iX11_someTimes_150 rfl rfl ?_
      refine At_dup (pc' := 152) iX11_someTimes_151 rfl rfl ?_
      refine At_getI (pc' := 155) iX11_someTimes_152 rfl f_11_148 (kdK eT (kd_59 hL)) (by decide) ?_
      refine At_iconst (v := nI 1) (pc' := 156) iX11_someTimes_155 rfl (by decide) ?_
      refine At_iadd (pc' := 157) iX11_someTimes_156 rfl ?_
      refine At_putI (pc' := 160) iX11_someTimes_157 rfl f_11_148 (kdK eT (kd_59 hL)) (Or.inl rfl) (by decide) ?_
      refine At_iinc (v := nI 1) (L' := [.ref 59, v1, .int x2, .int x3, .int x4, .int (x5 + nI 1), .int ((nI 4) * (x3 + x5))]) (pc' := 163) iX11_someTimes_160 rfl rfl (Nat.le_of_ble_eq_true rfl) (by decide) rfl ?_
      refine At_goto (t := 80) iX11_someTimes_163 (by decide) ?_
      exact hv _ _
    · have hv := hv.1 c106
      refine At_aload_n (pc' := 110) iX11_someTimes_109 rfl rfl ?_
      refine At_aload_n (pc' := 111) iX11_someTimes_110 rfl rfl ?_
      refine At_getR (pc' := 114) iX11_someTimes_111 rfl f_11_19 (kdK eT (kd_59 hL)) (by decide) (rfH eT (rf_59_5 hL)) ?_
      refine At_iload (pc' := 116) iX11_someTimes_114 rfl rfl ?_
      obtain ⟨hn1, hv⟩ := hv
      refine At_iald (pc' := 117) iX11_someTimes_116 rfl (kdH eT (kd_63 hL)) hn1 (show At (d + 4) MX11_someTimes 117 [.ref 59, v1, .int x2, .int x3, .int x4, .int x5, .int ((nI 4) * (x3 + x5))] [.int (gI h 63 (((nI 4) * (x3 + x5)).toNatClampNeg)), .ref 59] h Q from ?_)
      refine At_aload_n (pc' := 118) iX11_someTimes_117 rfl rfl ?_
      refine At_getR (pc' := 121) iX11_someTimes_118 rfl f_11_19 (kdK eT (kd_59 hL)) (by decide) (rfH eT (rf_59_5 hL)) ?_
      refine At_iload (pc' := 123) iX11_someTimes_121 rfl rfl ?_
      refine At_iconst (v := nI 1) (pc' := 124) iX11_someTimes_123 rfl (by decide) ?_
      refine At_iadd (pc' := 125) iX11_someTimes_124 rfl ?_
      obtain ⟨hn2, hv⟩ := hv
      refine At_iald (pc' := 126) iX11_someTimes_125 rfl (kdH eT (kd_63 hL)) hn2 (show At (d + 4) MX11_someTimes 126 [.ref 59, v1, .int x2, .int x3, .int x4, .int x5, .int ((nI 4) * (x3 + x5))] [.int (gI h 63 ((((nI 4) * (x3 + x5)) + (nI 1)).toNatClampNeg)), .int (gI h 63 (((nI 4) * (x3 + x5)).toNatClampNeg)), .ref 59] h Q from ?_)
      refine At_aload_n (pc' := 127) iX11_someTimes_126 rfl rfl ?_
      refine At_getR (pc' := 130) iX11_someTimes_127 rfl f_11_19 (kdK eT (kd_59 hL)) (by decide) (rfH eT (rf_59_5 hL)) ?_
      refine At_iload (pc' := 132) iX11_someTimes_130 rfl rfl ?_
      refine At_iconst (v := nI 2) (pc' := 133) iX11_someTimes_132 rfl (by decide) ?_
      refine At_iadd (pc' := 134) iX11_someTimes_133 rfl ?_
      obtain ⟨hn3, hv⟩ := hv
      refine At_iald (pc' := 135) iX11_someTimes_134 rfl (kdH eT (kd_63 hL)) hn3 (show At (d + 4) MX11_someTimes 135 [.ref 59, v1, .int x2, .int x3, .int x4, .int x5, .int ((nI 4) * (x3 + x5))] [.int (gI h 63 ((((nI 4) * (x3 + x5)) + (nI 2)).toNatClampNeg)), .int (gI h 63 ((((nI 4) * (x3 + x5)) + (nI 1)).toNatClampNeg)), .int (gI h 63 (((nI 4) * (x3 + x5)).toNatClampNeg)), .ref 59] h Q from ?_)
      refine At_aload_n (pc' := 136) iX11_someTimes_135 rfl rfl ?_
      refine At_getR (pc' := 139) iX11_someTimes_136 rfl f_11_19 (kdK eT (kd_59 hL)) (by decide) (rfH eT (rf_59_5 hL)) ?_
      refine At_iload (pc' := 141) iX11_someTimes_139 rfl rfl ?_
      refine At_iconst (v := nI 3) (pc' := 142) iX11_someTimes_141 rfl (by decide) ?_
      refine At_iadd (pc' := 143) iX11_someTimes_142 rfl ?_
      obtain ⟨hn4, hv⟩ := hv
      refine At_iald (pc' := 144) iX11_someTimes_143 rfl (kdH eT (kd_63 hL)) hn4 (show At (d + 4) MX11_someTimes 144 [.ref 59, v1, .int x2, .int x3, .int x4, .int x5, .int ((nI 4) * (x3 + x5))] [.int (gI h 63 ((((nI 4) * (x3 + x5)) + (nI 3)).toNatClampNeg)), .int (gI h 63 ((((nI 4) * (x3 + x5)) + (nI 2)).toNatClampNeg)), .int (gI h 63 ((((nI 4) * (x3 + x5)) + (nI 1)).toNatClampNeg)), .int (gI h 63 (((nI 4) * (x3 + x5)).toNatClampNeg)), .ref 59] h Q from ?_)
      refine At_virt (pc' := 147) iX11_someTimes_144 rfl m_11_158 rfl rfl (kdK eT (kd_59 hL)) (Nat.le_of_ble_eq_true rfl) (Nat.le_of_ble_eq_true rfl) ?_
      obtain ⟨hn5, hv⟩ := hv
      refine c_X11_puts (h := h) hL eT (gI h 63 (((nI 4) * (x3 + x5)).toNatClampNeg)) (gI h 63 ((((nI 4) * (x3 + x5)) + (nI 1)).toNatClampNeg)) (gI h 63 ((((nI 4) * (x3 + x5)) + (nI 2)).toNatClampNeg)) (gI h 63 ((((nI 4) * (x3 + x5)) + (nI 3)).toNatClampNeg))  hn5 (show At (d + 4) MX11_someTimes 147 [.ref 59, v1, .int x2, .int x3, .int x4, .int x5, .int ((nI 4) * (x3 + x5))] [] (w_X11_puts (gI h 63 (((nI 4) * (x3 + x5)).toNatClampNeg)) (gI h 63 ((((nI 4) * (x3 + x5)) + (nI 1)).toNatClampNeg)) (gI h 63 ((((nI 4) * (x3 + x5)) + (nI 2)).toNatClampNeg)) (gI h 63 ((((nI 4) * (x3 + x5)) + (nI 3)).toNatClampNeg)) h) Q from ?_)
      refine At_goto (t := 160) iX11_someTimes_147 (by decide) ?_
      refine At_iinc (v := nI 1) (L' := [.ref 59, v1, .int x2, .int x3, .int x4, .int (x5 + nI 1), .int ((nI 4) * (x3 + x5))]) (pc' := 163) iX11_someTimes_160 rfl rfl (Nat.le_of_ble_eq_true rfl) (by decide) rfl ?_
      refine At_goto (t := 80) iX11_someTimes_163 (by decide) ?_
      exact hv _ _
