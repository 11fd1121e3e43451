-- blocks between loop heads; written out by gen20.py
-- X8_strandsToDye (calls X8_layRows)
def L_X8_strandsToDye_17 (d : Nat) (a : Nat) (x1 : Nat) (x2 : Int32) (x3 : Int64) (x5 : Int32) (x6 : Int32) (h : Hp) (Q : Option Value → Hp → Prop) : Prop := ∀ v1 v7 v8 v9 : Value, At (d + 4) MX8_strandsToDye 17 [.ref a, v1, .int x2, .long x3, un, .int x5, .int x6, v7, v8, v9] [] h Q
set_option maxRecDepth 20000 in
theorem b_X8_strandsToDye {d : Nat} {T : HT} (hL : Lay T) {h : Hp} (eT : h.2.2 = T) (a : Nat) (x1 : Nat) (hA : IsX8 T a) (hA1 : IsX7 T x1) {Q : Option Value → Hp → Prop} (hv : CallI (d + 3) MX8_layRows [.ref a, .ref x1] h (fun r2 h2 => h2.2.2 = T ∧ (L_X8_strandsToDye_17 d a x1 r2 (gJ h2 a 2) (nI 0) (nI 0) h2 Q))) : Call (d + 4) MX8_strandsToDye [.ref a, .ref x1] h Q := by
  show At (d + 4) MX8_strandsToDye 0 [.ref a, .ref x1, un, un, un, un, un, un, un, un] [] h Q
  refine At_aload_n (pc' := 1) iX8_strandsToDye_0 rfl rfl ?_
  refine At_aload_n (pc' := 2) iX8_strandsToDye_1 rfl rfl ?_
  refine At_virt (pc' := 5) iX8_strandsToDye_2 rfl m_8_118 rfl rfl (kdK eT (X8_k0 hA)) (Nat.le_of_ble_eq_true rfl) (Nat.le_of_ble_eq_true rfl) ?_
  refine At.mono (show CallI (d + 3) MX8_layRows [.ref a, .ref x1] h _ from hv) ?_
  rintro _ h2 ⟨r2, rfl, eT2, hv⟩
  show At (d + 4) MX8_strandsToDye 5 [.ref a, .ref x1, un, un, un, un, un, un, un, un] [.int r2] h2 Q
  refine At_istore_n (L' := [.ref a, .ref x1, .int r2, un, un, un, un, un, un, un]) (pc' := 6) iX8_strandsToDye_5 rfl (Nat.le_of_ble_eq_true rfl) rfl ?_
  refine At_aload_n (pc' := 7) iX8_strandsToDye_6 rfl rfl ?_
  refine At_getJ (pc' := 10) iX8_strandsToDye_7 rfl f_8_18 (kdK eT2 (X8_k0 hA)) (by decide) ?_
  refine At_lstore_n (L' := [.ref a, .ref x1, .int r2, .long (gJ h2 a 2), un, un, un, un, un, un]) (pc' := 11) iX8_strandsToDye_10 rfl (Nat.le_of_ble_eq_true rfl) rfl ?_
  refine At_iconst (v := nI 0) (pc' := 12) iX8_strandsToDye_11 rfl (by decide) ?_
  refine At_istore (L' := [.ref a, .ref x1, .int r2, .long (gJ h2 a 2), un, .int (nI 0), un, un, un, un]) (pc' := 14) iX8_strandsToDye_12 rfl (Nat.le_of_ble_eq_true rfl) rfl ?_
  refine At_iconst (v := nI 0) (pc' := 15) iX8_strandsToDye_14 rfl (by decide) ?_
  refine At_istore (L' := [.ref a, .ref x1, .int r2, .long (gJ h2 a 2), un, .int (nI 0), .int (nI 0), un, un, un]) (pc' := 17) iX8_strandsToDye_15 rfl (Nat.le_of_ble_eq_true rfl) rfl ?_
  exact hv _ _ _ _
set_option maxRecDepth 20000 in
theorem b_X8_strandsToDye_17 {d : Nat} {T : HT} (hL : Lay T) {h : Hp} (eT : h.2.2 = T) (a : Nat) (x1 : Nat) (x2 : Int32) (x3 : Int64) (x5 : Int32) (x6 : Int32) (hA : IsX8 T a) (hA1 : IsX7 T x1) {Q : Option Value → Hp → Prop} (hv : ((x6 < (nI 30)) → ((inB x6 30 = true) ∧ ((((gI h (a + 1) x6.toNatClampNeg) = (-1)) → (L_X8_strandsToDye_17 d a x1 x2 x3 x5 (x6 + nI 1) h Q)) ∧ (¬ ((gI h (a + 1) x6.toNatClampNeg) = (-1)) → (((x6 < x2) → ((inB x6 30 = true) ∧ ((((x5 &&& ((nI 1) <<< ((gI h (a + 7) x6.toNatClampNeg) &&& 31))) = 0) → ((((nI 0) = 0) → (L_X8_strandsToDye_17 d a x1 x2 (r_X6_with x3 (gI h (a + 7) x6.toNatClampNeg) (gI h (a + 1) x6.toNatClampNeg)) (x5 ||| ((nI 1) <<< ((gI h (a + 7) x6.toNatClampNeg) &&& 31))) (x6 + nI 1) h Q)) ∧ (¬ ((nI 0) = 0) → ((((r_X6_get x3 (gI h (a + 7) x6.toNatClampNeg)) = (gI h (a + 1) x6.toNatClampNeg)) → (L_X8_strandsToDye_17 d a x1 x2 (r_X6_with x3 (gI h (a + 7) x6.toNatClampNeg) (gI h (a + 1) x6.toNatClampNeg)) (x5 ||| ((nI 1) <<< ((gI h (a + 7) x6.toNatClampNeg) &&& 31))) (x6 + nI 1) h Q)) ∧ (¬ ((r_X6_get x3 (gI h (a + 7) x6.toNatClampNeg)) = (gI h (a + 1) x6.toNatClampNeg)) → (Q (some (.int (-1))) h)))))) ∧ (¬ ((x5 &&& ((nI 1) <<< ((gI h (a + 7) x6.toNatClampNeg) &&& 31))) = 0) → ((((nI 1) = 0) → (L_X8_strandsToDye_17 d a x1 x2 (r_X6_with x3 (gI h (a + 7) x6.toNatClampNeg) (gI h (a + 1) x6.toNatClampNeg)) (x5 ||| ((nI 1) <<< ((gI h (a + 7) x6.toNatClampNeg) &&& 31))) (x6 + nI 1) h Q)) ∧ (¬ ((nI 1) = 0) → ((((r_X6_get x3 (gI h (a + 7) x6.toNatClampNeg)) = (gI h (a + 1) x6.toNatClampNeg)) → (L_X8_strandsToDye_17 d a x1 x2 (r_X6_with x3 (gI h (a + 7) x6.toNatClampNeg) (gI h (a + 1) x6.toNatClampNeg)) (x5 ||| ((nI 1) <<< ((gI h (a + 7) x6.toNatClampNeg) &&& 31))) (x6 + nI 1) h Q)) ∧ (¬ ((r_X6_get x3 (gI h (a + 7) x6.toNatClampNeg)) = (gI h (a + 1) x6.toNatClampNeg)) → (Q (some (.int (-1))) h))))))))) ∧ (¬ (x6 < x2) → (Q (some (.int (-1))) h))))))) ∧ (¬ (x6 < (nI 30)) → (CallI (d + 3) MX8_countUnlike [.ref a, .long x3] h (fun r120 h120 => h120.2.2 = T ∧ (Q (some (.int r120)) h120))))) : L_X8_strandsToDye_17 d a x1 x2 x3 x5 x6 h Q := by
  intro v1 v7 v8 v9
  refine At_iload (pc' := 19) iX8_strandsToDye_17 rfl rfl ?_
  refine At_bipush (v := nI 30) (pc' := 21) iX8_strandsToDye_19 rfl (by decide) ?_
  refine At_icmp_ge (t := 118) (pc' := 24) iX8_strandsToDye_21 (by decide) rfl (fun c21 => ?_) (fun c21 => ?_)
  · have hv := hv.2 c21
    refine At_aload_n (pc' := 119) iX8_strandsToDye_118 rfl rfl ?_
    refine At_lload_n (pc' := 120) iX8_strandsToDye_119 rfl rfl ?_
    refine At_virt (pc' := 123) iX8_strandsToDye_120 rfl m_8_122 rfl rfl (kdK eT (X8_k0 hA)) (Nat.le_of_ble_eq_true rfl) (Nat.le_of_ble_eq_true rfl) ?_
    refine At.mono (show CallI (d + 3) MX8_countUnlike [.ref a, .long x3] h _ from hv) ?_
    rintro _ h120 ⟨r120, rfl, eT120, hv⟩
    show At (d + 4) MX8_strandsToDye 123 [.ref a, v1, .int x2, .long x3, un, .int x5, .int x6, v7, v8, v9] [.int r120] h120 Q
    exact At_retI iX8_strandsToDye_123 rfl hv
  · have hv := hv.1 c21
    refine At_aload_n (pc' := 25) iX8_strandsToDye_24 rfl rfl ?_
    refine At_getR (pc' := 28) iX8_strandsToDye_25 rfl f_8_25 (kdK eT (X8_k0 hA)) (by decide) (rfH eT (X8_r4 hA)) ?_
    refine At_iload (pc' := 30) iX8_strandsToDye_28 rfl rfl ?_
    obtain ⟨hn1, hv⟩ := hv
    refine At_iald (pc' := 31) iX8_strandsToDye_30 rfl (kdH eT (X8_k1 hA)) hn1 (show At (d + 4) MX8_strandsToDye 31 [.ref a, v1, .int x2, .long x3, un, .int x5, .int x6, v7, v8, v9] [.int (gI h (a + 1) x6.toNatClampNeg)] h Q from ?_)
    refine At_istore (L' := [.ref a, v1, .int x2, .long x3, un, .int x5, .int x6, .int (gI h (a + 1) x6.toNatClampNeg), v8, v9]) (pc' := 33) iX8_strandsToDye_31 rfl (Nat.le_of_ble_eq_true rfl) rfl ?_
    refine At_iload (pc' := 35) iX8_strandsToDye_33 rfl rfl ?_
    refine At_iconst (v := (-1)) (pc' := 36) iX8_strandsToDye_35 rfl (by decide) ?_
    refine At_icmp_ne (t := 42) (pc' := 39) iX8_strandsToDye_36 (by decide) rfl (fun c36 => ?_) (fun c36 => ?_)
    · have hv := hv.2 c36
      refine At_iload (pc' := 44) iX8_strandsToDye_42 rfl rfl ?_
      refine At_iload_n (pc' := 45) iX8_strandsToDye_44 rfl rfl ?_
      refine At_icmp_lt (t := 50) (pc' := 48) iX8_strandsToDye_45 (by decide) rfl (fun c45 => ?_) (fun c45 => ?_)
      · have hv := hv.1 c45
        refine At_aload_n (pc' := 51) iX8_strandsToDye_50 rfl rfl ?_
        refine At_getR (pc' := 54) iX8_strandsToDye_51 rfl f_8_45 (kdK eT (X8_k0 hA)) (by decide) (rfH eT (X8_r8 hA)) ?_
        refine At_iload (pc' := 56) iX8_strandsToDye_54 rfl rfl ?_
        obtain ⟨hn2, hv⟩ := hv
        refine At_iald (pc' := 57) iX8_strandsToDye_56 rfl (kdH eT (X8_k7 hA)) hn2 (show At (d + 4) MX8_strandsToDye 57 [.ref a, v1, .int x2, .long x3, un, .int x5, .int x6, .int (gI h (a + 1) x6.toNatClampNeg), v8, v9] [.int (gI h (a + 7) x6.toNatClampNeg)] h Q from ?_)
        refine At_istore (L' := [.ref a, v1, .int x2, .long x3, un, .int x5, .int x6, .int (gI h (a + 1) x6.toNatClampNeg), .int (gI h (a + 7) x6.toNatClampNeg), v9]) (pc' := 59) iX8_strandsToDye_57 rfl (Nat.le_of_ble_eq_true rfl) rfl ?_
        refine At_iload (pc' := 61) iX8_strandsToDye_59 rfl rfl ?_
        refine At_iconst (v := nI 1) (pc' := 62) iX8_strandsToDye_61 rfl (by decide) ?_
        refine At_iload (pc' := 64) iX8_strandsToDye_62 rfl rfl ?_
        refine At_ishl (pc' := 65) iX8_strandsToDye_64 rfl ?_
        refine At_iand (pc' := 66) iX8_strandsToDye_65 rfl ?_
        refine At_if_eq (t := 73) (pc' := 69) iX8_strandsToDye_66 (by decide) rfl (fun c66 => ?_) (fun c66 => ?_)
        · have hv := hv.1 c66
          refine At_iconst (v := nI 0) (pc' := 74) iX8_strandsToDye_73 rfl (by decide) ?_
          refine At_istore (L' := [.ref a, v1, .int x2, .long x3, un, .int x5, .int x6, .int (gI h (a + 1) x6.toNatClampNeg), .int (gI h (a + 7) x6.toNatClampNeg), .int (nI 0)]) (pc' := 76) iX8_strandsToDye_74 rfl (Nat.le_of_ble_eq_true rfl) rfl ?_
          refine At_iload (pc' := 78) iX8_strandsToDye_76 rfl rfl ?_
          refine At_if_eq (t := 94) (pc' := 81) iX8_strandsToDye_78 (by decide) rfl (fun c78 => ?_) (fun c78 => ?_)
          · have hv := hv.1 c78
            refine At_lload_n (pc' := 95) iX8_strandsToDye_94 rfl rfl ?_
            refine At_iload (pc' := 97) iX8_strandsToDye_95 rfl rfl ?_
            refine At_iload (pc' := 99) iX8_strandsToDye_97 rfl rfl ?_
            refine At_stat (pc' := 102) iX8_strandsToDye_99 rfl m_8_81 rfl rfl (Nat.le_of_ble_eq_true rfl) (Nat.le_of_ble_eq_true rfl) (Nat.le_of_ble_eq_true rfl) ?_
            refine c_X6_with (h := h) x3 (gI h (a + 7) x6.toNatClampNeg) (gI h (a + 1) x6.toNatClampNeg)   (show At (d + 4) MX8_strandsToDye 102 [.ref a, v1, .int x2, .long x3, un, .int x5, .int x6, .int (gI h (a + 1) x6.toNatClampNeg), .int (gI h (a + 7) x6.toNatClampNeg), .int (nI 0)] [.long (r_X6_with x3 (gI h (a + 7) x6.toNatClampNeg) (gI h (a + 1) x6.toNatClampNeg))] h Q from ?_)
            refine At_lstore_n (L' := [.ref a, v1, .int x2, .long (r_X6_with x3 (gI h (a + 7) x6.toNatClampNeg) (gI h (a + 1) x6.toNatClampNeg)), un, .int x5, .int x6, .int (gI h (a + 1) x6.toNatClampNeg), .int (gI h (a + 7) x6.toNatClampNeg), .int (nI 0)]) (pc' := 103) iX8_strandsToDye_102 rfl (Nat.le_of_ble_eq_true rfl) rfl ?_
            refine At_iload (pc' := 105) iX8_strandsToDye_103 rfl rfl ?_
            refine At_iconst (v := nI 1) (pc' := 106) iX8_strandsToDye_105 rfl (by decide) ?_
            refine At_iload (pc' := 108) iX8_strandsToDye_106 rfl rfl ?_
            refine At_ishl (pc' := 109) iX8_strandsToDye_108 rfl ?_
            refine At_ior (pc' := 110) iX8_strandsToDye_109 rfl ?_
            refine At_istore (L' := [.ref a, v1, .int x2, .long (r_X6_with x3 (gI h (a + 7) x6.toNatClampNeg) (gI h (a + 1) x6.toNatClampNeg)), un, .int (x5 ||| ((nI 1) <<< ((gI h (a + 7) x6.toNatClampNeg) &&& 31))), .int x6, .int (gI h (a + 1) x6.toNatClampNeg), .int (gI h (a + 7) x6.toNatClampNeg), .int (nI 0)]) (pc' := 112) iX8_strandsToDye_110 rfl (Nat.le_of_ble_eq_true rfl) rfl ?_
            refine At_iinc (v := nI 1) (L' := [.ref a, v1, .int x2, .long (r_X6_with x3 (gI h (a + 7) x6.toNatClampNeg) (gI h (a + 1) x6.toNatClampNeg)), un, .int (x5 ||| ((nI 1) <<< ((gI h (a + 7) x6.toNatClampNeg) &&& 31))), .int (x6 + nI 1), .int (gI h (a + 1) x6.toNatClampNeg), .int (gI h (a + 7) x6.toNatClampNeg), .int (nI 0)]) (pc' := 115) iX8_strandsToDye_112 rfl rfl (Nat.le_of_ble_eq_true rfl) (by decide) rfl ?_
            refine At_goto (t := 17) iX8_strandsToDye_115 (by decide) ?_
            exact hv _ _ _ _
          · have hv := hv.2 c78
            refine At_lload_n (pc' := 82) iX8_strandsToDye_81 rfl rfl ?_
            refine At_iload (pc' := 84) iX8_strandsToDye_82 rfl rfl ?_
            refine At_stat (pc' := 87) iX8_strandsToDye_84 rfl m_8_75 rfl rfl (Nat.le_of_ble_eq_true rfl) (Nat.le_of_ble_eq_true rfl) (Nat.le_of_ble_eq_true rfl) ?_
            refine c_X6_get (h := h) x3 (gI h (a + 7) x6.toNatClampNeg)   (show At (d + 4) MX8_strandsToDye 87 [.ref a, v1, .int x2, .long x3, un, .int x5, .int x6, .int (gI h (a + 1) x6.toNatClampNeg), .int (gI h (a + 7) x6.toNatClampNeg), .int (nI 0)] [.int (r_X6_get x3 (gI h (a + 7) x6.toNatClampNeg))] h Q from ?_)
            refine At_iload (pc' := 89) iX8_strandsToDye_87 rfl rfl ?_
            refine At_icmp_eq (t := 94) (pc' := 92) iX8_strandsToDye_89 (by decide) rfl (fun c89 => ?_) (fun c89 => ?_)
            · have hv := hv.1 c89
              refine At_lload_n (pc' := 95) iX8_strandsToDye_94 rfl rfl ?_
              refine At_iload (pc' := 97) iX8_strandsToDye_95 rfl rfl ?_
              refine At_iload (pc' := 99) iX8_strandsToDye_97 rfl rfl ?_
              refine At_stat (pc' := 102) iX8_strandsToDye_99 rfl m_8_81 rfl rfl (Nat.le_of_ble_eq_true rfl) (Nat.le_of_ble_eq_true rfl) (Nat.le_of_ble_eq_true rfl) ?_
              refine c_X6_with (h := h) x3 (gI h (a + 7) x6.toNatClampNeg) (gI h (a + 1) x6.toNatClampNeg)   (show At (d + 4) MX8_strandsToDye 102 [.ref a, v1, .int x2, .long x3, un, .int x5, .int x6, .int (gI h (a + 1) x6.toNatClampNeg), .int (gI h (a + 7) x6.toNatClampNeg), .int (nI 0)] [.long (r_X6_with x3 (gI h (a + 7) x6.toNatClampNeg) (gI h (a + 1) x6.toNatClampNeg))] h Q from ?_)
              refine At_lstore_n (L' := [.ref a, v1, .int x2, .long (r_X6_with x3 (gI h (a + 7) x6.toNatClampNeg) (gI h (a + 1) x6.toNatClampNeg)), un, .int x5, .int x6, .int (gI h (a + 1) x6.toNatClampNeg), .int (gI h (a + 7) x6.toNatClampNeg), .int (nI 0)]) (pc' := 103) iX8_strandsToDye_102 rfl (Nat.le_of_ble_eq_true rfl) rfl ?_
              refine At_iload (pc' := 105) iX8_strandsToDye_103 rfl rfl ?_
              refine At_iconst (v := nI 1) (pc' := 106) iX8_strandsToDye_105 rfl (by decide) ?_
              refine At_iload (pc' := 108) iX8_strandsToDye_106 rfl rfl ?_
              refine At_ishl (pc' := 109) iX8_strandsToDye_108 rfl ?_
              refine At_ior (pc' := 110) iX8_strandsToDye_109 rfl ?_
              refine At_istore (L' := [.ref a, v1, .int x2, .long (r_X6_with x3 (gI h (a + 7) x6.toNatClampNeg) (gI h (a + 1) x6.toNatClampNeg)), un, .int (x5 ||| ((nI 1) <<< ((gI h (a + 7) x6.toNatClampNeg) &&& 31))), .int x6, .int (gI h (a + 1) x6.toNatClampNeg), .int (gI h (a + 7) x6.toNatClampNeg), .int (nI 0)]) (pc' := 112) iX8_strandsToDye_110 rfl (Nat.le_of_ble_eq_true rfl) rfl ?_
              refine At_iinc (v := nI 1) (L' := [.ref a, v1, .int x2, .long (r_X6_with x3 (gI h (a + 7) x6.toNatClampNeg) (gI h (a + 1) x6.toNatClampNeg)), un, .int (x5 ||| ((nI 1) <<< ((gI h (a + 7) x6.toNatClampNeg) &&& 31))), .int (x6 + nI 1), .int (gI h (a + 1) x6.toNatClampNeg), .int (gI h (a + 7) x6.toNatClampNeg), .int (nI 0)]) (pc' := 115) iX8_strandsToDye_112 rfl rfl (Nat.le_of_ble_eq_true rfl) (by decide) rfl ?_
              refine At_goto (t := 17) iX8_strandsToDye_115 (by decide) ?_
              exact hv _ _ _ _
            · have hv := hv.2 c89
              refine At_iconst (v := (-1)) (pc' := 93) iX8_strandsToDye_92 rfl (by decide) ?_
              exact At_retI iX8_strandsToDye_93 rfl hv
        · have hv := hv.2 c66
          refine At_iconst (v := nI 1) (pc' := 70) iX8_strandsToDye_69 rfl (by decide) ?_
          refine At_goto (t := 74) iX8_strandsToDye_70 (by decide) ?_
          refine At_istore (L' := [.ref a, v1, .int x2, .long x3, un, .int x5, .int x6, .int (gI h (a + 1) x6.toNatClampNeg), .int (gI h (a + 7) x6.toNatClampNeg), .int (nI 1)]) (pc' := 76) iX8_strandsToDye_74 rfl (Nat.le_of_ble_eq_true rfl) rfl ?_
          refine At_iload (pc' := 78) iX8_strandsToDye_76 rfl rfl ?_
          refine At_if_eq (t := 94) (pc' := 81) iX8_strandsToDye_78 (by decide) rfl (fun c78 => ?_) (fun c78 => ?_)
          · have hv := hv.1 c78
            refine At_lload_n (pc' := 95) iX8_strandsToDye_94 rfl rfl ?_
            refine At_iload (pc' := 97) iX8_strandsToDye_95 rfl rfl ?_
            refine At_iload (pc' := 99) iX8_strandsToDye_97 rfl rfl ?_
            refine At_stat (pc' := 102) iX8_strandsToDye_99 rfl m_8_81 rfl rfl (Nat.le_of_ble_eq_true rfl) (Nat.le_of_ble_eq_true rfl) (Nat.le_of_ble_eq_true rfl) ?_
            refine c_X6_with (h := h) x3 (gI h (a + 7) x6.toNatClampNeg) (gI h (a + 1) x6.toNatClampNeg)   (show At (d + 4) MX8_strandsToDye 102 [.ref a, v1, .int x2, .long x3, un, .int x5, .int x6, .int (gI h (a + 1) x6.toNatClampNeg), .int (gI h (a + 7) x6.toNatClampNeg), .int (nI 1)] [.long (r_X6_with x3 (gI h (a + 7) x6.toNatClampNeg) (gI h (a + 1) x6.toNatClampNeg))] h Q from ?_)
            refine At_lstore_n (L' := [.ref a, v1, .int x2, .long (r_X6_with x3 (gI h (a + 7) x6.toNatClampNeg) (gI h (a + 1) x6.toNatClampNeg)), un, .int x5, .int x6, .int (gI h (a + 1) x6.toNatClampNeg), .int (gI h (a + 7) x6.toNatClampNeg), .int (nI 1)]) (pc' := 103) iX8_strandsToDye_102 rfl (Nat.le_of_ble_eq_true rfl) rfl ?_
            refine At_iload (pc' := 105) iX8_strandsToDye_103 rfl rfl ?_
            refine At_iconst (v := nI 1) (pc' := 106) iX8_strandsToDye_105 rfl (by decide) ?_
            refine At_iload (pc' := 108) iX8_strandsToDye_106 rfl rfl ?_
            refine At_ishl (pc' := 109) iX8_strandsToDye_108 rfl ?_
            refine At_ior (pc' := 110) iX8_strandsToDye_109 rfl ?_
            refine At_istore (L' := [.ref a, v1, .int x2, .long (r_X6_with x3 (gI h (a + 7) x6.toNatClampNeg) (gI h (a + 1) x6.toNatClampNeg)), un, .int (x5 ||| ((nI 1) <<< ((gI h (a + 7) x6.toNatClampNeg) &&& 31))), .int x6, .int (gI h (a + 1) x6.toNatClampNeg), .int (gI h (a + 7) x6.toNatClampNeg), .int (nI 1)]) (pc' := 112) iX8_strandsToDye_110 rfl (Nat.le_of_ble_eq_true rfl) rfl ?_
            refine At_iinc (v := nI 1) (L' := [.ref a, v1, .int x2, .long (r_X6_with x3 (gI h (a + 7) x6.toNatClampNeg) (gI h (a + 1) x6.toNatClampNeg)), un, .int (x5 ||| ((nI 1) <<< ((gI h (a + 7) x6.toNatClampNeg) &&& 31))), .int (x6 + nI 1), .int (gI h (a + 1) x6.toNatClampNeg), .int (gI h (a + 7) x6.toNatClampNeg), .int (nI 1)]) (pc' := 115) iX8_strandsToDye_112 rfl rfl (Nat.le_of_ble_eq_true rfl) (by decide) rfl ?_
            refine At_goto (t := 17) iX8_strandsToDye_115 (by decide) ?_
            exact hv _ _ _ _
          · have hv := hv.2 c78
            refine At_lload_n (pc' := 82) iX8_strandsToDye_81 rfl rfl ?_
            refine At_iload (pc' := 84) iX8_strandsToDye_82 rfl rfl ?_
            refine At_stat (pc' := 87) iX8_strandsToDye_84 rfl m_8_75 rfl rfl (Nat.le_of_ble_eq_true rfl) (Nat.le_of_ble_eq_true rfl) (Nat.le_of_ble_eq_true rfl) ?_
            refine c_X6_get (h := h) x3 (gI h (a + 7) x6.toNatClampNeg)   (show At (d + 4) MX8_strandsToDye 87 [.ref a, v1, .int x2, .long x3, un, .int x5, .int x6, .int (gI h (a + 1) x6.toNatClampNeg), .int (gI h (a + 7) x6.toNatClampNeg), .int (nI 1)] [.int (r_X6_get x3 (gI h (a + 7) x6.toNatClampNeg))] h Q from ?_)
            refine At_iload (pc' := 89) iX8_strandsToDye_87 rfl rfl ?_
            refine At_icmp_eq (t := 94) (pc' := 92) iX8_strandsToDye_89 (by decide) rfl (fun c89 => ?_) (fun c89 => ?_)
            · have hv := hv.1 c89
              refine At_lload_n (pc' := 95) iX8_strandsToDye_94 rfl rfl ?_
              refine At_iload (pc' := 97) iX8_strandsToDye_95 rfl rfl ?_
              refine At_iload (pc' := 99) iX8_strandsToDye_97 rfl rfl ?_
              refine At_stat (pc' := 102) iX8_strandsToDye_99 rfl m_8_81 rfl rfl (Nat.le_of_ble_eq_true rfl) (Nat.le_of_ble_eq_true rfl) (Nat.le_of_ble_eq_true rfl) ?_
              refine c_X6_with (h := h) x3 (gI h (a + 7) x6.toNatClampNeg) (gI h (a + 1) x6.toNatClampNeg)   (show At (d + 4) MX8_strandsToDye 102 [.ref a, v1, .int x2, .long x3, un, .int x5, .int x6, .int (gI h (a + 1) x6.toNatClampNeg), .int (gI h (a + 7) x6.toNatClampNeg), .int (nI 1)] [.long (r_X6_with x3 (gI h (a + 7) x6.toNatClampNeg) (gI h (a + 1) x6.toNatClampNeg))] h Q from ?_)
              refine At_lstore_n (L' := [.ref a, v1, .int x2, .long (r_X6_with x3 (gI h (a + 7) x6.toNatClampNeg) (gI h (a + 1) x6.toNatClampNeg)), un, .int x5, .int x6, .int (gI h (a + 1) x6.toNatClampNeg), .int (gI h (a + 7) x6.toNatClampNeg), .int (nI 1)]) (pc' := 103) iX8_strandsToDye_102 rfl (Nat.le_of_ble_eq_true rfl) rfl ?_
              refine At_iload (pc' := 105) iX8_strandsToDye_103 rfl rfl ?_
              refine At_iconst (v := nI 1) (pc' := 106) iX8_strandsToDye_105 rfl (by decide) ?_
              refine At_iload (pc' := 108) iX8_strandsToDye_106 rfl rfl ?_
              refine At_ishl (pc' := 109) iX8_strandsToDye_108 rfl ?_
              refine At_ior (pc' := 110) iX8_strandsToDye_109 rfl ?_
              refine At_istore (L' := [.ref a, v1, .int x2, .long (r_X6_with x3 (gI h (a + 7) x6.toNatClampNeg) (gI h (a + 1) x6.toNatClampNeg)), un, .int (x5 ||| ((nI 1) <<< ((gI h (a + 7) x6.toNatClampNeg) &&& 31))), .int x6, .int (gI h (a + 1) x6.toNatClampNeg), .int (gI h (a + 7) x6.toNatClampNeg), .int (nI 1)]) (pc' := 112) iX8_strandsToDye_110 rfl (Nat.le_of_ble_eq_true rfl) rfl ?_
              refine At_iinc (v := nI 1) (L' := [.ref a, v1, .int x2, .long (r_X6_with x3 (gI h (a + 7) x6.toNatClampNeg) (gI h (a + 1) x6.toNatClampNeg)), un, .int (x5 ||| ((nI 1) <<< ((gI h (a + 7) x6.toNatClampNeg) &&& 31))), .int (x6 + nI 1), .int (gI h (a + 1) x6.toNatClampNeg), .int (gI h (a + 7) x6.toNatClampNeg), .int (nI 1)]) (pc' := 115) iX8_strandsToDye_112 rfl rfl (Nat.le_of_ble_eq_true rfl) (by decide) rfl ?_
              refine At_goto (t := 17) iX8_strandsToDye_115 (by decide) ?_
              exact hv _ _ _ _
            · have hv := hv.2 c89
              refine At_iconst (v := (-1)) (pc' := 93) iX8_strandsToDye_92 rfl (by decide) ?_
              exact At_retI iX8_strandsToDye_93 rfl hv
      · have hv := hv.2 c45
        refine At_iconst (v := (-1)) (pc' := 49) iX8_strandsToDye_48 rfl (by decide) ?_
        exact At_retI iX8_strandsToDye_49 rfl hv
    · have hv := hv.1 c36
      refine At_goto (t := 112) iX8_strandsToDye_39 (by decide) ?_
      refine At_iinc (v := nI 1) (L' := [.ref a, v1, .int x2, .long x3, un, .int x5, .int (x6 + nI 1), .int (gI h (a + 1) x6.toNatClampNeg), v8, v9]) (pc' := 115) iX8_strandsToDye_112 rfl rfl (Nat.le_of_ble_eq_true rfl) (by decide) rfl ?_
      refine At_goto (t := 17) iX8_strandsToDye_115 (by decide) ?_
      exact hv _ _ _ _
-- X10_beats (ex)
set_option maxRecDepth 20000 in
theorem b_X10_beats {d : Nat} {T : HT} (hL : Lay T) {h : Hp} (eT : h.2.2 = T) (x1 : Int32) (x2 : Int32)  {Q : Option Value → Hp → Prop} (hv : (((r_X10_isSong x1) = true) → (((x2 < (nI 1)) → (Q (some (.int (-1))) h)) ∧ (¬ (x2 < (nI 1)) → ((((nI 9) < x2) → (Q (some (.int (-1))) h)) ∧ (¬ ((nI 9) < x2) → (∃ k32 : Nat, x1 = nI k32 ∧ k32 < 4 ∧ (CallI (d + 3) MX0_needed [.ref 50, .ref (20 + 2 * k32), .int x2] h (fun r34 h34 => h34.2.2 = T ∧ (Q (some (.int r34)) h34))))))))) ∧ (¬ ((r_X10_isSong x1) = true) → (Q (some (.int (-1))) h))) : Call (d + 4) MX10_beats [.ref 1, .int x1, .int x2] h Q := by
  show At (d + 4) MX10_beats 0 [.ref 1, .int x1, .int x2] [] h Q
  refine At_iload_n (pc' := 1) iX10_beats_0 rfl rfl ?_
  refine At_stat (pc' := 4) iX10_beats_1 rfl m_10_106 rfl rfl (Nat.le_of_ble_eq_true rfl) (Nat.le_of_ble_eq_true rfl) (Nat.le_of_ble_eq_true rfl) ?_
  refine c_X10_isSong (h := h) x1   (show At (d + 4) MX10_beats 4 [.ref 1, .int x1, .int x2] [.int (b2i (r_X10_isSong x1))] h Q from ?_)
  refine At_zeq (t := 18) (pc' := 7) iX10_beats_4 (by decide) rfl (fun c4 => ?_) (fun c4 => ?_)
  · have hv := hv.2 c4
    refine At_iconst (v := (-1)) (pc' := 19) iX10_beats_18 rfl (by decide) ?_
    exact At_retI iX10_beats_19 rfl hv
  · have hv := hv.1 c4
    refine At_iload_n (pc' := 8) iX10_beats_7 rfl rfl ?_
    refine At_iconst (v := nI 1) (pc' := 9) iX10_beats_8 rfl (by decide) ?_
    refine At_icmp_lt (t := 18) (pc' := 12) iX10_beats_9 (by decide) rfl (fun c9 => ?_) (fun c9 => ?_)
    · have hv := hv.1 c9
      refine At_iconst (v := (-1)) (pc' := 19) iX10_beats_18 rfl (by decide) ?_
      exact At_retI iX10_beats_19 rfl hv
    · have hv := hv.2 c9
      refine At_iload_n (pc' := 13) iX10_beats_12 rfl rfl ?_
      refine At_bipush (v := nI 9) (pc' := 15) iX10_beats_13 rfl (by decide) ?_
      refine At_icmp_le (t := 20) (pc' := 18) iX10_beats_15 (by decide) rfl (fun c15 => ?_) (fun c15 => ?_)
      · have hv := hv.2 c15
        refine At_aload_n (pc' := 21) iX10_beats_20 rfl rfl ?_
        refine At_getR (pc' := 24) iX10_beats_21 rfl f_10_40 (kdK eT (kd_1 hL)) (by decide) (rfH eT (rf_1_4 hL)) ?_
        refine At_aload_n (pc' := 25) iX10_beats_24 rfl rfl ?_
        refine At_getR (pc' := 28) iX10_beats_25 rfl f_10_19 (kdK eT (kd_1 hL)) (by decide) (rfH eT (rf_1_1 hL)) ?_
        refine At_getR (pc' := 31) iX10_beats_28 rfl f_10_115 (kdK eT (kd_12 hL)) (by decide) (rfH eT (rf_12_5 hL)) ?_
        refine At_iload_n (pc' := 32) iX10_beats_31 rfl rfl ?_
        obtain ⟨k32, e32, hk32, hv⟩ := hv
        refine At_aald (b := (20 + 2 * k32)) (pc' := 33) iX10_beats_32 rfl (kdH eT (kd_14 hL)) (by decide) (by rw [e32]; exact inB_nI hk32 (by decide)) (by rw [e32, nI_clamp (by omega)]; exact rfH eT (rf_song hL hk32)) ?_
        refine At_iload_n (pc' := 34) iX10_beats_33 rfl rfl ?_
        refine At_virt (pc' := 37) iX10_beats_34 rfl m_10_220 rfl rfl (kdK eT (kd_50 hL)) (Nat.le_of_ble_eq_true rfl) (Nat.le_of_ble_eq_true rfl) ?_
        refine At.mono (show CallI (d + 3) MX0_needed [.ref 50, .ref (20 + 2 * k32), .int x2] h _ from hv) ?_
        rintro _ h34 ⟨r34, rfl, eT34, hv⟩
        show At (d + 4) MX10_beats 37 [.ref 1, .int x1, .int x2] [.int r34] h34 Q
        exact At_retI iX10_beats_37 rfl hv
      · have hv := hv.1 c15
        refine At_iconst (v := (-1)) (pc' := 19) iX10_beats_18 rfl (by decide) ?_
        exact At_retI iX10_beats_19 rfl hv
-- X10_cut (loop)
def L_X10_cut_21 (d : Nat) (x1 : Int32) (x2 : Int32) (x3 : Int32) (x4 : Int32) (x5 : Int32) (h : Hp) (Q : Option Value → Hp → Prop) : Prop := ∀ v6 v7 v8 : Value, At (d + 4) MX10_cut 21 [.ref 1, .int x1, .int x2, .int x3, .int x4, .int x5, v6, v7, v8] [] h Q
def L_X10_cut_39 (d : Nat) (x1 : Int32) (x2 : Int32) (x3 : Int32) (x4 : Int32) (x5 : Int32) (x6 : Int64) (x8 : Int32) (h : Hp) (Q : Option Value → Hp → Prop) : Prop := At (d + 4) MX10_cut 39 [.ref 1, .int x1, .int x2, .int x3, .int x4, .int x5, .long x6, un, .int x8] [] h Q
set_option maxRecDepth 20000 in
theorem b_X10_cut {d : Nat} {T : HT} (hL : Lay T) {h : Hp} (eT : h.2.2 = T) (x1 : Int32)  {Q : Option Value → Hp → Prop} (hv : ((x1 < 0) → (Q (some (.int (-1))) h)) ∧ (¬ (x1 < 0) → ((((nI 2) < x1) → (Q (some (.int (-1))) h)) ∧ (¬ ((nI 2) < x1) → (L_X10_cut_21 d x1 (nI 0) (-1) (-1) (nI 0) h Q))))) : Call (d + 4) MX10_cut [.ref 1, .int x1] h Q := by
  show At (d + 4) MX10_cut 0 [.ref 1, .int x1, un, un, un, un, un, un, un] [] h Q
  refine At_iload_n (pc' := 1) iX10_cut_0 rfl rfl ?_
  refine At_if_lt (t := 9) (pc' := 4) iX10_cut_1 (by decide) rfl (fun c1 => ?_) (fun c1 => ?_)
  · have hv := hv.1 c1
    refine At_iconst (v := (-1)) (pc' := 10) iX10_cut_9 rfl (by decide) ?_
    exact At_retI iX10_cut_10 rfl hv
  · have hv := hv.2 c1
    refine At_iload_n (pc' := 5) iX10_cut_4 rfl rfl ?_
    refine At_iconst (v := nI 2) (pc' := 6) iX10_cut_5 rfl (by decide) ?_
    refine At_icmp_le (t := 11) (pc' := 9) iX10_cut_6 (by decide) rfl (fun c6 => ?_) (fun c6 => ?_)
    · have hv := hv.2 c6
      refine At_iconst (v := nI 0) (pc' := 12) iX10_cut_11 rfl (by decide) ?_
      refine At_istore_n (L' := [.ref 1, .int x1, .int (nI 0), un, un, un, un, un, un]) (pc' := 13) iX10_cut_12 rfl (Nat.le_of_ble_eq_true rfl) rfl ?_
      refine At_iconst (v := (-1)) (pc' := 14) iX10_cut_13 rfl (by decide) ?_
      refine At_istore_n (L' := [.ref 1, .int x1, .int (nI 0), .int (-1), un, un, un, un, un]) (pc' := 15) iX10_cut_14 rfl (Nat.le_of_ble_eq_true rfl) rfl ?_
      refine At_iconst (v := (-1)) (pc' := 16) iX10_cut_15 rfl (by decide) ?_
      refine At_istore (L' := [.ref 1, .int x1, .int (nI 0), .int (-1), .int (-1), un, un, un, un]) (pc' := 18) iX10_cut_16 rfl (Nat.le_of_ble_eq_true rfl) rfl ?_
      refine At_iconst (v := nI 0) (pc' := 19) iX10_cut_18 rfl (by decide) ?_
      refine At_istore (L' := [.ref 1, .int x1, .int (nI 0), .int (-1), .int (-1), .int (nI 0), un, un, un]) (pc' := 21) iX10_cut_19 rfl (Nat.le_of_ble_eq_true rfl) rfl ?_
      exact hv _ _ _
    · have hv := hv.1 c6
      refine At_iconst (v := (-1)) (pc' := 10) iX10_cut_9 rfl (by decide) ?_
      exact At_retI iX10_cut_10 rfl hv
set_option maxRecDepth 20000 in
theorem b_X10_cut_21 {d : Nat} {T : HT} (hL : Lay T) {h : Hp} (eT : h.2.2 = T) (x1 : Int32) (x2 : Int32) (x3 : Int32) (x4 : Int32) (x5 : Int32)  {Q : Option Value → Hp → Prop} (hv : ((x5 < (nI 4)) → (L_X10_cut_39 d x1 x2 x3 x4 x5 (gJ h 12 2) (nI 0) h Q)) ∧ (¬ (x5 < (nI 4)) → (Q (some (.int (r_X10_oneOfThree x1 x2 x3 x4))) h))) : L_X10_cut_21 d x1 x2 x3 x4 x5 h Q := by
  intro v6 v7 v8
  refine At_iload (pc' := 23) iX10_cut_21 rfl rfl ?_
  refine At_iconst (v := nI 4) (pc' := 24) iX10_cut_23 rfl (by decide) ?_
  refine At_icmp_ge (t := 126) (pc' := 27) iX10_cut_24 (by decide) rfl (fun c24 => ?_) (fun c24 => ?_)
  · have hv := hv.2 c24
    refine At_iload_n (pc' := 127) iX10_cut_126 rfl rfl ?_
    refine At_iload_n (pc' := 128) iX10_cut_127 rfl rfl ?_
    refine At_iload_n (pc' := 129) iX10_cut_128 rfl rfl ?_
    refine At_iload (pc' := 131) iX10_cut_129 rfl rfl ?_
    refine At_stat (pc' := 134) iX10_cut_131 rfl m_10_208 rfl rfl (Nat.le_of_ble_eq_true rfl) (Nat.le_of_ble_eq_true rfl) (Nat.le_of_ble_eq_true rfl) ?_
    refine c_X10_oneOfThree (h := h) x1 x2 x3 x4   (show At (d + 4) MX10_cut 134 [.ref 1, .int x1, .int x2, .int x3, .int x4, .int x5, v6, v7, v8] [.int (r_X10_oneOfThree x1 x2 x3 x4)] h Q from ?_)
    exact At_retI iX10_cut_134 rfl hv
  · have hv := hv.1 c24
    refine At_aload_n (pc' := 28) iX10_cut_27 rfl rfl ?_
    refine At_getR (pc' := 31) iX10_cut_28 rfl f_10_19 (kdK eT (kd_1 hL)) (by decide) (rfH eT (rf_1_1 hL)) ?_
    refine At_getJ (pc' := 34) iX10_cut_31 rfl f_10_78 (kdK eT (kd_12 hL)) (by decide) ?_
    refine At_lstore (L' := [.ref 1, .int x1, .int x2, .int x3, .int x4, .int x5, .long (gJ h 12 2), un, v8]) (pc' := 36) iX10_cut_34 rfl (Nat.le_of_ble_eq_true rfl) rfl ?_
    refine At_iconst (v := nI 0) (pc' := 37) iX10_cut_36 rfl (by decide) ?_
    refine At_istore (L' := [.ref 1, .int x1, .int x2, .int x3, .int x4, .int x5, .long (gJ h 12 2), un, .int (nI 0)]) (pc' := 39) iX10_cut_37 rfl (Nat.le_of_ble_eq_true rfl) rfl ?_
    exact hv
set_option maxRecDepth 20000 in
theorem b_X10_cut_39 {d : Nat} {T : HT} (hL : Lay T) {h : Hp} (eT : h.2.2 = T) (x1 : Int32) (x2 : Int32) (x3 : Int32) (x4 : Int32) (x5 : Int32) (x6 : Int64) (x8 : Int32)  {Q : Option Value → Hp → Prop} (hv : (((nI 30) < x8) → (L_X10_cut_21 d x1 x2 x3 x4 (x5 + nI 1) h Q)) ∧ (¬ ((nI 30) < x8) → ((((lg_cmp x6 (gJ h 12 3)) = 0) → (((x2 = 0) → (((x2 = 0) → (∃ k95 : Nat, x5 = nI k95 ∧ k95 < 4 ∧ (CallJ (d + 3) MX7_sungFrom [.ref (20 + 2 * k95), .long x6, .long (-81985529216486896 : Int64), .int (gI h 12 0), .int (-1)] h (fun r109 h109 => h109.2.2 = T ∧ (L_X10_cut_39 d x1 (x2 + nI 1) x5 x8 x5 r109 (x8 + nI 1) h109 Q))))) ∧ (¬ (x2 = 0) → (∃ k95 : Nat, x5 = nI k95 ∧ k95 < 4 ∧ (CallJ (d + 3) MX7_sungFrom [.ref (20 + 2 * k95), .long x6, .long (-81985529216486896 : Int64), .int (gI h 12 0), .int (-1)] h (fun r109 h109 => h109.2.2 = T ∧ (L_X10_cut_39 d x1 (x2 + nI 1) x5 x4 x5 r109 (x8 + nI 1) h109 Q))))))) ∧ (¬ (x2 = 0) → (((x2 = 0) → (∃ k95 : Nat, x5 = nI k95 ∧ k95 < 4 ∧ (CallJ (d + 3) MX7_sungFrom [.ref (20 + 2 * k95), .long x6, .long (-81985529216486896 : Int64), .int (gI h 12 0), .int (-1)] h (fun r109 h109 => h109.2.2 = T ∧ (L_X10_cut_39 d x1 (x2 + nI 1) x3 x8 x5 r109 (x8 + nI 1) h109 Q))))) ∧ (¬ (x2 = 0) → (∃ k95 : Nat, x5 = nI k95 ∧ k95 < 4 ∧ (CallJ (d + 3) MX7_sungFrom [.ref (20 + 2 * k95), .long x6, .long (-81985529216486896 : Int64), .int (gI h 12 0), .int (-1)] h (fun r109 h109 => h109.2.2 = T ∧ (L_X10_cut_39 d x1 (x2 + nI 1) x3 x4 x5 r109 (x8 + nI 1) h109 Q))))))))) ∧ (¬ ((lg_cmp x6 (gJ h 12 3)) = 0) → (∃ k95 : Nat, x5 = nI k95 ∧ k95 < 4 ∧ (CallJ (d + 3) MX7_sungFrom [.ref (20 + 2 * k95), .long x6, .long (-81985529216486896 : Int64), .int (gI h 12 0), .int (-1)] h (fun r109 h109 => h109.2.2 = T ∧ (L_X10_cut_39 d x1 x2 x3 x4 x5 r109 (x8 + nI 1) h109 Q)))))))) : L_X10_cut_39 d x1 x2 x3 x4 x5 x6 x8 h Q := by
  refine At_iload (pc' := 41) iX10_cut_39 rfl rfl ?_
  refine At_bipush (v := nI 30) (pc' := 43) iX10_cut_41 rfl (by decide) ?_
  refine At_icmp_gt (t := 120) (pc' := 46) iX10_cut_43 (by decide) rfl (fun c43 => ?_) (fun c43 => ?_)
  · have hv := hv.1 c43
    refine At_iinc (v := nI 1) (L' := [.ref 1, .int x1, .int x2, .int x3, .int x4, .int (x5 + nI 1), .long x6, un, .int x8]) (pc' := 123) iX10_cut_120 rfl rfl (Nat.le_of_ble_eq_true rfl) (by decide) rfl ?_
    refine At_goto (t := 21) iX10_cut_123 (by decide) ?_
    exact hv _ _ _
  · have hv := hv.2 c43
    refine At_lload (pc' := 48) iX10_cut_46 rfl rfl ?_
    refine At_aload_n (pc' := 49) iX10_cut_48 rfl rfl ?_
    refine At_getR (pc' := 52) iX10_cut_49 rfl f_10_19 (kdK eT (kd_1 hL)) (by decide) (rfH eT (rf_1_1 hL)) ?_
    refine At_getJ (pc' := 55) iX10_cut_52 rfl f_10_189 (kdK eT (kd_12 hL)) (by decide) ?_
    refine At_lcmp (pc' := 56) iX10_cut_55 rfl ?_
    refine At_if_ne (t := 86) (pc' := 59) iX10_cut_56 (by decide) rfl (fun c56 => ?_) (fun c56 => ?_)
    · have hv := hv.2 c56
      refine At_aload_n (pc' := 87) iX10_cut_86 rfl rfl ?_
      refine At_getR (pc' := 90) iX10_cut_87 rfl f_10_19 (kdK eT (kd_1 hL)) (by decide) (rfH eT (rf_1_1 hL)) ?_
      refine At_getR (pc' := 93) iX10_cut_90 rfl f_10_115 (kdK eT (kd_12 hL)) (by decide) (rfH eT (rf_12_5 hL)) ?_
      refine At_iload (pc' := 95) iX10_cut_93 rfl rfl ?_
      obtain ⟨k95, e95, hk95, hv⟩ := hv
      refine At_aald (b := (20 + 2 * k95)) (pc' := 96) iX10_cut_95 rfl (kdH eT (kd_14 hL)) (by decide) (by rw [e95]; exact inB_nI hk95 (by decide)) (by rw [e95, nI_clamp (by omega)]; exact rfH eT (rf_song hL hk95)) ?_
      refine At_lload (pc' := 98) iX10_cut_96 rfl rfl ?_
      refine At_ldc2 (v := (-81985529216486896 : Int64)) (pc' := 101) iX10_cut_98 rfl rfl ?_
      refine At_aload_n (pc' := 102) iX10_cut_101 rfl rfl ?_
      refine At_getR (pc' := 105) iX10_cut_102 rfl f_10_19 (kdK eT (kd_1 hL)) (by decide) (rfH eT (rf_1_1 hL)) ?_
      refine At_getI (pc' := 108) iX10_cut_105 rfl f_10_109 (kdK eT (kd_12 hL)) (by decide) ?_
      refine At_iconst (v := (-1)) (pc' := 109) iX10_cut_108 rfl (by decide) ?_
      refine At_virt (pc' := 112) iX10_cut_109 rfl m_10_185 rfl rfl (kdK eT (X7_k0 (isX7_song hL hk95))) (Nat.le_of_ble_eq_true rfl) (Nat.le_of_ble_eq_true rfl) ?_
      refine At.mono (show CallJ (d + 3) MX7_sungFrom [.ref (20 + 2 * k95), .long x6, .long (-81985529216486896 : Int64), .int (gI h 12 0), .int (-1)] h _ from hv) ?_
      rintro _ h109 ⟨r109, rfl, eT109, hv⟩
      show At (d + 4) MX10_cut 112 [.ref 1, .int x1, .int x2, .int x3, .int x4, .int x5, .long x6, un, .int x8] [.long r109] h109 Q
      refine At_lstore (L' := [.ref 1, .int x1, .int x2, .int x3, .int x4, .int x5, .long r109, un, .int x8]) (pc' := 114) iX10_cut_112 rfl (Nat.le_of_ble_eq_true rfl) rfl ?_
      refine At_iinc (v := nI 1) (L' := [.ref 1, .int x1, .int x2, .int x3, .int x4, .int x5, .long r109, un, .int (x8 + nI 1)]) (pc' := 117) iX10_cut_114 rfl rfl (Nat.le_of_ble_eq_true rfl) (by decide) rfl ?_
      refine At_goto (t := 39) iX10_cut_117 (by decide) ?_
      exact hv
    · have hv := hv.1 c56
      refine At_iload_n (pc' := 60) iX10_cut_59 rfl rfl ?_
      refine At_if_ne (t := 68) (pc' := 63) iX10_cut_60 (by decide) rfl (fun c60 => ?_) (fun c60 => ?_)
      · have hv := hv.2 c60
        refine At_iload_n (pc' := 69) iX10_cut_68 rfl rfl ?_
        refine At_istore_n (L' := [.ref 1, .int x1, .int x2, .int x3, .int x4, .int x5, .long x6, un, .int x8]) (pc' := 70) iX10_cut_69 rfl (Nat.le_of_ble_eq_true rfl) rfl ?_
        refine At_iload_n (pc' := 71) iX10_cut_70 rfl rfl ?_
        refine At_if_ne (t := 79) (pc' := 74) iX10_cut_71 (by decide) rfl (fun c71 => ?_) (fun c71 => ?_)
        · have hv := hv.2 c71
          refine At_iload (pc' := 81) iX10_cut_79 rfl rfl ?_
          refine At_istore (L' := [.ref 1, .int x1, .int x2, .int x3, .int x4, .int x5, .long x6, un, .int x8]) (pc' := 83) iX10_cut_81 rfl (Nat.le_of_ble_eq_true rfl) rfl ?_
          refine At_iinc (v := nI 1) (L' := [.ref 1, .int x1, .int (x2 + nI 1), .int x3, .int x4, .int x5, .long x6, un, .int x8]) (pc' := 86) iX10_cut_83 rfl rfl (Nat.le_of_ble_eq_true rfl) (by decide) rfl ?_
          refine At_aload_n (pc' := 87) iX10_cut_86 rfl rfl ?_
          refine At_getR (pc' := 90) iX10_cut_87 rfl f_10_19 (kdK eT (kd_1 hL)) (by decide) (rfH eT (rf_1_1 hL)) ?_
          refine At_getR (pc' := 93) iX10_cut_90 rfl f_10_115 (kdK eT (kd_12 hL)) (by decide) (rfH eT (rf_12_5 hL)) ?_
          refine At_iload (pc' := 95) iX10_cut_93 rfl rfl ?_
          obtain ⟨k95, e95, hk95, hv⟩ := hv
          refine At_aald (b := (20 + 2 * k95)) (pc' := 96) iX10_cut_95 rfl (kdH eT (kd_14 hL)) (by decide) (by rw [e95]; exact inB_nI hk95 (by decide)) (by rw [e95, nI_clamp (by omega)]; exact rfH eT (rf_song hL hk95)) ?_
          refine At_lload (pc' := 98) iX10_cut_96 rfl rfl ?_
          refine At_ldc2 (v := (-81985529216486896 : Int64)) (pc' := 101) iX10_cut_98 rfl rfl ?_
          refine At_aload_n (pc' := 102) iX10_cut_101 rfl rfl ?_
          refine At_getR (pc' := 105) iX10_cut_102 rfl f_10_19 (kdK eT (kd_1 hL)) (by decide) (rfH eT (rf_1_1 hL)) ?_
          refine At_getI (pc' := 108) iX10_cut_105 rfl f_10_109 (kdK eT (kd_12 hL)) (by decide) ?_
          refine At_iconst (v := (-1)) (pc' := 109) iX10_cut_108 rfl (by decide) ?_
          refine At_virt (pc' := 112) iX10_cut_109 rfl m_10_185 rfl rfl (kdK eT (X7_k0 (isX7_song hL hk95))) (Nat.le_of_ble_eq_true rfl) (Nat.le_of_ble_eq_true rfl) ?_
          refine At.mono (show CallJ (d + 3) MX7_sungFrom [.ref (20 + 2 * k95), .long x6, .long (-81985529216486896 : Int64), .int (gI h 12 0), .int (-1)] h _ from hv) ?_
          rintro _ h109 ⟨r109, rfl, eT109, hv⟩
          show At (d + 4) MX10_cut 112 [.ref 1, .int x1, .int (x2 + nI 1), .int x3, .int x4, .int x5, .long x6, un, .int x8] [.long r109] h109 Q
          refine At_lstore (L' := [.ref 1, .int x1, .int (x2 + nI 1), .int x3, .int x4, .int x5, .long r109, un, .int x8]) (pc' := 114) iX10_cut_112 rfl (Nat.le_of_ble_eq_true rfl) rfl ?_
          refine At_iinc (v := nI 1) (L' := [.ref 1, .int x1, .int (x2 + nI 1), .int x3, .int x4, .int x5, .long r109, un, .int (x8 + nI 1)]) (pc' := 117) iX10_cut_114 rfl rfl (Nat.le_of_ble_eq_true rfl) (by decide) rfl ?_
          refine At_goto (t := 39) iX10_cut_117 (by decide) ?_
          exact hv
        · have hv := hv.1 c71
          refine At_iload (pc' := 76) iX10_cut_74 rfl rfl ?_
          refine At_goto (t := 81) iX10_cut_76 (by decide) ?_
          refine At_istore (L' := [.ref 1, .int x1, .int x2, .int x3, .int x8, .int x5, .long x6, un, .int x8]) (pc' := 83) iX10_cut_81 rfl (Nat.le_of_ble_eq_true rfl) rfl ?_
          refine At_iinc (v := nI 1) (L' := [.ref 1, .int x1, .int (x2 + nI 1), .int x3, .int x8, .int x5, .long x6, un, .int x8]) (pc' := 86) iX10_cut_83 rfl rfl (Nat.le_of_ble_eq_true rfl) (by decide) rfl ?_
          refine At_aload_n (pc' := 87) iX10_cut_86 rfl rfl ?_
          refine At_getR (pc' := 90) iX10_cut_87 rfl f_10_19 (kdK eT (kd_1 hL)) (by decide) (rfH eT (rf_1_1 hL)) ?_
          refine At_getR (pc' := 93) iX10_cut_90 rfl f_10_115 (kdK eT (kd_12 hL)) (by decide) (rfH eT (rf_12_5 hL)) ?_
          refine At_iload (pc' := 95) iX10_cut_93 rfl rfl ?_
          obtain ⟨k95, e95, hk95, hv⟩ := hv
          refine At_aald (b := (20 + 2 * k95)) (pc' := 96) iX10_cut_95 rfl (kdH eT (kd_14 hL)) (by decide) (by rw [e95]; exact inB_nI hk95 (by decide)) (by rw [e95, nI_clamp (by omega)]; exact rfH eT (rf_song hL hk95)) ?_
          refine At_lload (pc' := 98) iX10_cut_96 rfl rfl ?_
          refine At_ldc2 (v := (-81985529216486896 : Int64)) (pc' := 101) iX10_cut_98 rfl rfl ?_
          refine At_aload_n (pc' := 102) iX10_cut_101 rfl rfl ?_
          refine At_getR (pc' := 105) iX10_cut_102 rfl f_10_19 (kdK eT (kd_1 hL)) (by decide) (rfH eT (rf_1_1 hL)) ?_
          refine At_getI (pc' := 108) iX10_cut_105 rfl f_10_109 (kdK eT (kd_12 hL)) (by decide) ?_
          refine At_iconst (v := (-1)) (pc' := 109) iX10_cut_108 rfl (by decide) ?_
          refine At_virt (pc' := 112) iX10_cut_109 rfl m_10_185 rfl rfl (kdK eT (X7_k0 (isX7_song hL hk95))) (Nat.le_of_ble_eq_true rfl) (Nat.le_of_ble_eq_true rfl) ?_
          refine At.mono (show CallJ (d + 3) MX7_sungFrom [.ref (20 + 2 * k95), .long x6, .long (-81985529216486896 : Int64), .int (gI h 12 0), .int (-1)] h _ from hv) ?_
          rintro _ h109 ⟨r109, rfl, eT109, hv⟩
          show At (d + 4) MX10_cut 112 [.ref 1, .int x1, .int (x2 + nI 1), .int x3, .int x8, .int x5, .long x6, un, .int x8] [.long r109] h109 Q
          refine At_lstore (L' := [.ref 1, .int x1, .int (x2 + nI 1), .int x3, .int x8, .int x5, .long r109, un, .int x8]) (pc' := 114) iX10_cut_112 rfl (Nat.le_of_ble_eq_true rfl) rfl ?_
          refine At_iinc (v := nI 1) (L' := [.ref 1, .int x1, .int (x2 + nI 1), .int x3, .int x8, .int x5, .long r109, un, .int (x8 + nI 1)]) (pc' := 117) iX10_cut_114 rfl rfl (Nat.le_of_ble_eq_true rfl) (by decide) rfl ?_
          refine At_goto (t := 39) iX10_cut_117 (by decide) ?_
          exact hv
      · have hv := hv.1 c60
        refine At_iload (pc' := 65) iX10_cut_63 rfl rfl ?_
        refine At_goto (t := 69) iX10_cut_65 (by decide) ?_
        refine At_istore_n (L' := [.ref 1, .int x1, .int x2, .int x5, .int x4, .int x5, .long x6, un, .int x8]) (pc' := 70) iX10_cut_69 rfl (Nat.le_of_ble_eq_true rfl) rfl ?_
        refine At_iload_n (pc' := 71) iX10_cut_70 rfl rfl ?_
        refine At_if_ne (t := 79) (pc' := 74) iX10_cut_71 (by decide) rfl (fun c71 => ?_) (fun c71 => ?_)
        · have hv := hv.2 c71
          refine At_iload (pc' := 81) iX10_cut_79 rfl rfl ?_
          refine At_istore (L' := [.ref 1, .int x1, .int x2, .int x5, .int x4, .int x5, .long x6, un, .int x8]) (pc' := 83) iX10_cut_81 rfl (Nat.le_of_ble_eq_true rfl) rfl ?_
          refine At_iinc (v := nI 1) (L' := [.ref 1, .int x1, .int (x2 + nI 1), .int x5, .int x4, .int x5, .long x6, un, .int x8]) (pc' := 86) iX10_cut_83 rfl rfl (Nat.le_of_ble_eq_true rfl) (by decide) rfl ?_
          refine At_aload_n (pc' := 87) iX10_cut_86 rfl rfl ?_
          refine At_getR (pc' := 90) iX10_cut_87 rfl f_10_19 (kdK eT (kd_1 hL)) (by decide) (rfH eT (rf_1_1 hL)) ?_
          refine At_getR (pc' := 93) iX10_cut_90 rfl f_10_115 (kdK eT (kd_12 hL)) (by decide) (rfH eT (rf_12_5 hL)) ?_
          refine At_iload (pc' := 95) iX10_cut_93 rfl rfl ?_
          obtain ⟨k95, e95, hk95, hv⟩ := hv
          refine At_aald (b := (20 + 2 * k95)) (pc' := 96) iX10_cut_95 rfl (kdH eT (kd_14 hL)) (by decide) (by rw [e95]; exact inB_nI hk95 (by decide)) (by rw [e95, nI_clamp (by omega)]; exact rfH eT (rf_song hL hk95)) ?_
          refine At_lload (pc' := 98) iX10_cut_96 rfl rfl ?_
          refine At_ldc2 (v := (-81985529216486896 : Int64)) (pc' := 101) iX10_cut_98 rfl rfl ?_
          refine At_aload_n (pc' := 102) iX10_cut_101 rfl rfl ?_
          refine At_getR (pc' := 105) iX10_cut_102 rfl f_10_19 (kdK eT (kd_1 hL)) (by decide) (rfH eT (rf_1_1 hL)) ?_
          refine At_getI (pc' := 108) iX10_cut_105 rfl f_10_109 (kdK eT (kd_12 hL)) (by decide) ?_
          refine At_iconst (v := (-1)) (pc' := 109) iX10_cut_108 rfl (by decide) ?_
          refine At_virt (pc' := 112) iX10_cut_109 rfl m_10_185 rfl rfl (kdK eT (X7_k0 (isX7_song hL hk95))) (Nat.le_of_ble_eq_true rfl) (Nat.le_of_ble_eq_true rfl) ?_
          refine At.mono (show CallJ (d + 3) MX7_sungFrom [.ref (20 + 2 * k95), .long x6, .long (-81985529216486896 : Int64), .int (gI h 12 0), .int (-1)] h _ from hv) ?_
          rintro _ h109 ⟨r109, rfl, eT109, hv⟩
          show At (d + 4) MX10_cut 112 [.ref 1, .int x1, .int (x2 + nI 1), .int x5, .int x4, .int x5, .long x6, un, .int x8] [.long r109] h109 Q
          refine At_lstore (L' := [.ref 1, .int x1, .int (x2 + nI 1), .int x5, .int x4, .int x5, .long r109, un, .int x8]) (pc' := 114) iX10_cut_112 rfl (Nat.le_of_ble_eq_true rfl) rfl ?_
          refine At_iinc (v := nI 1) (L' := [.ref 1, .int x1, .int (x2 + nI 1), .int x5, .int x4, .int x5, .long r109, un, .int (x8 + nI 1)]) (pc' := 117) iX10_cut_114 rfl rfl (Nat.le_of_ble_eq_true rfl) (by decide) rfl ?_
          refine At_goto (t := 39) iX10_cut_117 (by decide) ?_
          exact hv
        · have hv := hv.1 c71
          refine At_iload (pc' := 76) iX10_cut_74 rfl rfl ?_
          refine At_goto (t := 81) iX10_cut_76 (by decide) ?_
          refine At_istore (L' := [.ref 1, .int x1, .int x2, .int x5, .int x8, .int x5, .long x6, un, .int x8]) (pc' := 83) iX10_cut_81 rfl (Nat.le_of_ble_eq_true rfl) rfl ?_
          refine At_iinc (v := nI 1) (L' := [.ref 1, .int x1, .int (x2 + nI 1), .int x5, .int x8, .int x5, .long x6, un, .int x8]) (pc' := 86) iX10_cut_83 rfl rfl (Nat.le_of_ble_eq_true rfl) (by decide) rfl ?_
          refine At_aload_n (pc' := 87) iX10_cut_86 rfl rfl ?_
          refine At_getR (pc' := 90) iX10_cut_87 rfl f_10_19 (kdK eT (kd_1 hL)) (by decide) (rfH eT (rf_1_1 hL)) ?_
          refine At_getR (pc' := 93) iX10_cut_90 rfl f_10_115 (kdK eT (kd_12 hL)) (by decide) (rfH eT (rf_12_5 hL)) ?_
          refine At_iload (pc' := 95) iX10_cut_93 rfl rfl ?_
          obtain ⟨k95, e95, hk95, hv⟩ := hv
          refine At_aald (b := (20 + 2 * k95)) (pc' := 96) iX10_cut_95 rfl (kdH eT (kd_14 hL)) (by decide) (by rw [e95]; exact inB_nI hk95 (by decide)) (by rw [e95, nI_clamp (by omega)]; exact rfH eT (rf_song hL hk95)) ?_
          refine At_lload (pc' := 98) iX10_cut_96 rfl rfl ?_
          refine At_ldc2 (v := (-81985529216486896 : Int64)) (pc' := 101) iX10_cut_98 rfl rfl ?_
          refine At_aload_n (pc' := 102) iX10_cut_101 rfl rfl ?_
          refine At_getR (pc' := 105) iX10_cut_102 rfl f_10_19 (kdK eT (kd_1 hL)) (by decide) (rfH eT (rf_1_1 hL)) ?_
          refine At_getI (pc' := 108) iX10_cut_105 rfl f_10_109 (kdK eT (kd_12 hL)) (by decide) ?_
          refine At_iconst (v := (-1)) (pc' := 109) iX10_cut_108 rfl (by decide) ?_
          refine At_virt (pc' := 112) iX10_cut_109 rfl m_10_185 rfl rfl (kdK eT (X7_k0 (isX7_song hL hk95))) (Nat.le_of_ble_eq_true rfl) (Nat.le_of_ble_eq_true rfl) ?_
          refine At.mono (show CallJ (d + 3) MX7_sungFrom [.ref (20 + 2 * k95), .long x6, .long (-81985529216486896 : Int64), .int (gI h 12 0), .int (-1)] h _ from hv) ?_
          rintro _ h109 ⟨r109, rfl, eT109, hv⟩
          show At (d + 4) MX10_cut 112 [.ref 1, .int x1, .int (x2 + nI 1), .int x5, .int x8, .int x5, .long x6, un, .int x8] [.long r109] h109 Q
          refine At_lstore (L' := [.ref 1, .int x1, .int (x2 + nI 1), .int x5, .int x8, .int x5, .long r109, un, .int x8]) (pc' := 114) iX10_cut_112 rfl (Nat.le_of_ble_eq_true rfl) rfl ?_
          refine At_iinc (v := nI 1) (L' := [.ref 1, .int x1, .int (x2 + nI 1), .int x5, .int x8, .int x5, .long r109, un, .int (x8 + nI 1)]) (pc' := 117) iX10_cut_114 rfl rfl (Nat.le_of_ble_eq_true rfl) (by decide) rfl ?_
          refine At_goto (t := 39) iX10_cut_117 (by decide) ?_
          exact hv
-- X10_fitsWithout (loop)
def L_X10_fitsWithout_6 (d : Nat) (x4 : Nat) (x1 : Int32) (x5 : Int32) (x6 : Int64) (x8 : Int32) (h : Hp) (Q : Option Value → Hp → Prop) : Prop := ∀ v2 v3 : Value, At (d + 4) MX10_fitsWithout 6 [.ref 1, .int x1, v2, v3, .ref x4, .int x5, .long x6, un, .int x8] [] h Q
set_option maxRecDepth 20000 in
theorem b_X10_fitsWithout {d : Nat} {T : HT} (hL : Lay T) {h : Hp} (eT : h.2.2 = T) (x1 : Int32) (x2 : Int64) (x4 : Nat) (x5 : Int32) (hA4 : IsX7 T x4) {Q : Option Value → Hp → Prop} (hv : L_X10_fitsWithout_6 d x4 x1 x5 x2 (nI 0) h Q) : Call (d + 4) MX10_fitsWithout [.ref 1, .int x1, .long x2, .ref x4, .int x5] h Q := by
  show At (d + 4) MX10_fitsWithout 0 [.ref 1, .int x1, .long x2, un, .ref x4, .int x5, un, un, un] [] h Q
  refine At_lload_n (pc' := 1) iX10_fitsWithout_0 rfl rfl ?_
  refine At_lstore (L' := [.ref 1, .int x1, .long x2, un, .ref x4, .int x5, .long x2, un, un]) (pc' := 3) iX10_fitsWithout_1 rfl (Nat.le_of_ble_eq_true rfl) rfl ?_
  refine At_iconst (v := nI 0) (pc' := 4) iX10_fitsWithout_3 rfl (by decide) ?_
  refine At_istore (L' := [.ref 1, .int x1, .long x2, un, .ref x4, .int x5, .long x2, un, .int (nI 0)]) (pc' := 6) iX10_fitsWithout_4 rfl (Nat.le_of_ble_eq_true rfl) rfl ?_
  exact hv _ _
set_option maxRecDepth 20000 in
theorem b_X10_fitsWithout_6 {d : Nat} {T : HT} (hL : Lay T) {h : Hp} (eT : h.2.2 = T) (x4 : Nat) (x1 : Int32) (x5 : Int32) (x6 : Int64) (x8 : Int32) (hA4 : IsX7 T x4) {Q : Option Value → Hp → Prop} (hv : ((x8 < x5) → (CallJ (d + 3) MX7_sungFrom [.ref x4, .long x6, .long (gJ h 12 2), .int (gI h 12 0), .int x1] h (fun r32 h32 => h32.2.2 = T ∧ (L_X10_fitsWithout_6 d x4 x1 x5 r32 (x8 + nI 1) h32 Q)))) ∧ (¬ (x8 < x5) → (CallJ (d + 3) MX8_seen [.ref 12, .long x6] h (fun r49 h49 => h49.2.2 = T ∧ ((((lg_cmp r49 (gJ h49 12 3)) = 0) → (Q (some (.int (b2i true))) h49)) ∧ (¬ ((lg_cmp r49 (gJ h49 12 3)) = 0) → (Q (some (.int (b2i false))) h49))))))) : L_X10_fitsWithout_6 d x4 x1 x5 x6 x8 h Q := by
  intro v2 v3
  refine At_iload (pc' := 8) iX10_fitsWithout_6 rfl rfl ?_
  refine At_iload (pc' := 10) iX10_fitsWithout_8 rfl rfl ?_
  refine At_icmp_ge (t := 43) (pc' := 13) iX10_fitsWithout_10 (by decide) rfl (fun c10 => ?_) (fun c10 => ?_)
  · have hv := hv.2 c10
    refine At_aload_n (pc' := 44) iX10_fitsWithout_43 rfl rfl ?_
    refine At_getR (pc' := 47) iX10_fitsWithout_44 rfl f_10_19 (kdK eT (kd_1 hL)) (by decide) (rfH eT (rf_1_1 hL)) ?_
    refine At_lload (pc' := 49) iX10_fitsWithout_47 rfl rfl ?_
    refine At_virt (pc' := 52) iX10_fitsWithout_49 rfl m_10_175 rfl rfl (kdK eT (kd_12 hL)) (Nat.le_of_ble_eq_true rfl) (Nat.le_of_ble_eq_true rfl) ?_
    refine At.mono (show CallJ (d + 3) MX8_seen [.ref 12, .long x6] h _ from hv) ?_
    rintro _ h49 ⟨r49, rfl, eT49, hv⟩
    show At (d + 4) MX10_fitsWithout 52 [.ref 1, .int x1, v2, v3, .ref x4, .int x5, .long x6, un, .int x8] [.long r49] h49 Q
    refine At_aload_n (pc' := 53) iX10_fitsWithout_52 rfl rfl ?_
    refine At_getR (pc' := 56) iX10_fitsWithout_53 rfl f_10_19 (kdK eT49 (kd_1 hL)) (by decide) (rfH eT49 (rf_1_1 hL)) ?_
    refine At_getJ (pc' := 59) iX10_fitsWithout_56 rfl f_10_189 (kdK eT49 (kd_12 hL)) (by decide) ?_
    refine At_lcmp (pc' := 60) iX10_fitsWithout_59 rfl ?_
    refine At_if_ne (t := 67) (pc' := 63) iX10_fitsWithout_60 (by decide) rfl (fun c60 => ?_) (fun c60 => ?_)
    · have hv := hv.2 c60
      refine At_iconst (v := nI 0) (pc' := 68) iX10_fitsWithout_67 rfl (by decide) ?_
      exact At_retF iX10_fitsWithout_68 rfl hv
    · have hv := hv.1 c60
      refine At_iconst (v := nI 1) (pc' := 64) iX10_fitsWithout_63 rfl (by decide) ?_
      refine At_goto (t := 68) iX10_fitsWithout_64 (by decide) ?_
      exact At_retT iX10_fitsWithout_68 rfl hv
  · have hv := hv.1 c10
    refine At_aload (pc' := 15) iX10_fitsWithout_13 rfl rfl ?_
    refine At_lload (pc' := 17) iX10_fitsWithout_15 rfl rfl ?_
    refine At_aload_n (pc' := 18) iX10_fitsWithout_17 rfl rfl ?_
    refine At_getR (pc' := 21) iX10_fitsWithout_18 rfl f_10_19 (kdK eT (kd_1 hL)) (by decide) (rfH eT (rf_1_1 hL)) ?_
    refine At_getJ (pc' := 24) iX10_fitsWithout_21 rfl f_10_78 (kdK eT (kd_12 hL)) (by decide) ?_
    refine At_aload_n (pc' := 25) iX10_fitsWithout_24 rfl rfl ?_
    refine At_getR (pc' := 28) iX10_fitsWithout_25 rfl f_10_19 (kdK eT (kd_1 hL)) (by decide) (rfH eT (rf_1_1 hL)) ?_
    refine At_getI (pc' := 31) iX10_fitsWithout_28 rfl f_10_109 (kdK eT (kd_12 hL)) (by decide) ?_
    refine At_iload_n (pc' := 32) iX10_fitsWithout_31 rfl rfl ?_
    refine At_virt (pc' := 35) iX10_fitsWithout_32 rfl m_10_185 rfl rfl (kdK eT (X7_k0 hA4)) (Nat.le_of_ble_eq_true rfl) (Nat.le_of_ble_eq_true rfl) ?_
    refine At.mono (show CallJ (d + 3) MX7_sungFrom [.ref x4, .long x6, .long (gJ h 12 2), .int (gI h 12 0), .int x1] h _ from hv) ?_
    rintro _ h32 ⟨r32, rfl, eT32, hv⟩
    show At (d + 4) MX10_fitsWithout 35 [.ref 1, .int x1, v2, v3, .ref x4, .int x5, .long x6, un, .int x8] [.long r32] h32 Q
    refine At_lstore (L' := [.ref 1, .int x1, v2, v3, .ref x4, .int x5, .long r32, un, .int x8]) (pc' := 37) iX10_fitsWithout_35 rfl (Nat.le_of_ble_eq_true rfl) rfl ?_
    refine At_iinc (v := nI 1) (L' := [.ref 1, .int x1, v2, v3, .ref x4, .int x5, .long r32, un, .int (x8 + nI 1)]) (pc' := 40) iX10_fitsWithout_37 rfl rfl (Nat.le_of_ble_eq_true rfl) (by decide) rfl ?_
    refine At_goto (t := 6) iX10_fitsWithout_40 (by decide) ?_
    exact hv _ _
-- X10_loops (calls X10_ringOf)
set_option maxRecDepth 20000 in
theorem b_X10_loops {d : Nat} {T : HT} (hL : Lay T) {h : Hp} (eT : h.2.2 = T) (x1 : Int32)  {Q : Option Value → Hp → Prop} (hv : ((x1 = (-1)) → (CallI (d + 3) MX10_countRings [.ref 1] h (fun r6 h6 => h6.2.2 = T ∧ (Q (some (.int r6)) h6)))) ∧ (¬ (x1 = (-1)) → ((((r_X10_isSlot x1 h) = true) → (CallI (d + 3) MX10_ringOf [.ref 1, .int x1] h (fun r20 h20 => h20.2.2 = T ∧ (Q (some (.int (r_J6_bitCount_0f7a4 r20))) h20)))) ∧ (¬ ((r_X10_isSlot x1 h) = true) → (Q (some (.int (-1))) h))))) : Call (d + 4) MX10_loops [.ref 1, .int x1] h Q := by
  show At (d + 4) MX10_loops 0 [.ref 1, .int x1] [] h Q
  refine At_iload_n (pc' := 1) iX10_loops_0 rfl rfl ?_
  refine At_iconst (v := (-1)) (pc' := 2) iX10_loops_1 rfl (by decide) ?_
  refine At_icmp_ne (t := 10) (pc' := 5) iX10_loops_2 (by decide) rfl (fun c2 => ?_) (fun c2 => ?_)
  · have hv := hv.2 c2
    refine At_aload_n (pc' := 11) iX10_loops_10 rfl rfl ?_
    refine At_iload_n (pc' := 12) iX10_loops_11 rfl rfl ?_
    refine At_virt (pc' := 15) iX10_loops_12 rfl m_10_71 rfl rfl (kdK eT (kd_1 hL)) (Nat.le_of_ble_eq_true rfl) (Nat.le_of_ble_eq_true rfl) ?_
    refine c_X10_isSlot (h := h) hL eT x1   (show At (d + 4) MX10_loops 15 [.ref 1, .int x1] [.int (b2i (r_X10_isSlot x1 h))] h Q from ?_)
    refine At_zeq (t := 29) (pc' := 18) iX10_loops_15 (by decide) rfl (fun c15 => ?_) (fun c15 => ?_)
    · have hv := hv.2 c15
      refine At_iconst (v := (-1)) (pc' := 30) iX10_loops_29 rfl (by decide) ?_
      exact At_retI iX10_loops_30 rfl hv
    · have hv := hv.1 c15
      refine At_aload_n (pc' := 19) iX10_loops_18 rfl rfl ?_
      refine At_iload_n (pc' := 20) iX10_loops_19 rfl rfl ?_
      refine At_virt (pc' := 23) iX10_loops_20 rfl m_10_236 rfl rfl (kdK eT (kd_1 hL)) (Nat.le_of_ble_eq_true rfl) (Nat.le_of_ble_eq_true rfl) ?_
      refine At.mono (show CallI (d + 3) MX10_ringOf [.ref 1, .int x1] h _ from hv) ?_
      rintro _ h20 ⟨r20, rfl, eT20, hv⟩
      show At (d + 4) MX10_loops 23 [.ref 1, .int x1] [.int r20] h20 Q
      refine At_stat (pc' := 26) iX10_loops_23 rfl m_10_239 rfl rfl (Nat.le_of_ble_eq_true rfl) (Nat.le_of_ble_eq_true rfl) (Nat.le_of_ble_eq_true rfl) ?_
      refine c_J6_bitCount_0f7a4 (h := h20) r20   (show At (d + 4) MX10_loops 26 [.ref 1, .int x1] [.int (r_J6_bitCount_0f7a4 r20)] h20 Q from ?_)
      refine At_goto (t := 30) iX10_loops_26 (by decide) ?_
      exact At_retI iX10_loops_30 rfl hv
  · have hv := hv.1 c2
    refine At_aload_n (pc' := 6) iX10_loops_5 rfl rfl ?_
    refine At_virt (pc' := 9) iX10_loops_6 rfl m_10_232 rfl rfl (kdK eT (kd_1 hL)) (Nat.le_of_ble_eq_true rfl) (Nat.le_of_ble_eq_true rfl) ?_
    refine At.mono (show CallI (d + 3) MX10_countRings [.ref 1] h _ from hv) ?_
    rintro _ h6 ⟨r6, rfl, eT6, hv⟩
    show At (d + 4) MX10_loops 9 [.ref 1, .int x1] [.int r6] h6 Q
    exact At_retI iX10_loops_9 rfl hv
-- X10_stool (calls X8_startAnew)
set_option maxRecDepth 20000 in
theorem b_X10_stool {d : Nat} {T : HT} (hL : Lay T) {h : Hp} (eT : h.2.2 = T) (x1 : Int32)  {Q : Option Value → Hp → Prop} (hv : ((x1 < (nI 4)) → (Q (some (.int (b2i false))) h)) ∧ (¬ (x1 < (nI 4)) → ((((nI 16) < x1) → (Q (some (.int (b2i false))) h)) ∧ (¬ ((nI 16) < x1) → (CallV (d + 3) MX8_startAnew [.ref 12, .int x1] h (fun h18 => h18.2.2 = T ∧ (Q (some (.int (b2i true))) (w_X2_forget h18)))))))) : Call (d + 4) MX10_stool [.ref 1, .int x1] h Q := by
  show At (d + 4) MX10_stool 0 [.ref 1, .int x1] [] h Q
  refine At_iload_n (pc' := 1) iX10_stool_0 rfl rfl ?_
  refine At_iconst (v := nI 4) (pc' := 2) iX10_stool_1 rfl (by decide) ?_
  refine At_icmp_lt (t := 11) (pc' := 5) iX10_stool_2 (by decide) rfl (fun c2 => ?_) (fun c2 => ?_)
  · have hv := hv.1 c2
    refine At_iconst (v := nI 0) (pc' := 12) iX10_stool_11 rfl (by decide) ?_
    exact At_retF iX10_stool_12 rfl hv
  · have hv := hv.2 c2
    refine At_iload_n (pc' := 6) iX10_stool_5 rfl rfl ?_
    refine At_bipush (v := nI 16) (pc' := 8) iX10_stool_6 rfl (by decide) ?_
    refine At_icmp_le (t := 13) (pc' := 11) iX10_stool_8 (by decide) rfl (fun c8 => ?_) (fun c8 => ?_)
    · have hv := hv.2 c8
      refine At_aload_n (pc' := 14) iX10_stool_13 rfl rfl ?_
      refine At_getR (pc' := 17) iX10_stool_14 rfl f_10_19 (kdK eT (kd_1 hL)) (by decide) (rfH eT (rf_1_1 hL)) ?_
      refine At_iload_n (pc' := 18) iX10_stool_17 rfl rfl ?_
      refine At_virt (pc' := 21) iX10_stool_18 rfl m_10_67 rfl rfl (kdK eT (kd_12 hL)) (Nat.le_of_ble_eq_true rfl) (Nat.le_of_ble_eq_true rfl) ?_
      refine At.mono (show CallV (d + 3) MX8_startAnew [.ref 12, .int x1] h _ from hv) ?_
      rintro _ h18 ⟨rfl, eT18, hv⟩
      show At (d + 4) MX10_stool 21 [.ref 1, .int x1] [] h18 Q
      refine At_aload_n (pc' := 22) iX10_stool_21 rfl rfl ?_
      refine At_getR (pc' := 25) iX10_stool_22 rfl f_10_26 (kdK eT18 (kd_1 hL)) (by decide) (rfH eT18 (rf_1_2 hL)) ?_
      refine At_virt (pc' := 28) iX10_stool_25 rfl m_10_64 rfl rfl (kdK eT18 (kd_28 hL)) (Nat.le_of_ble_eq_true rfl) (Nat.le_of_ble_eq_true rfl) ?_
      refine c_X2_forget (h := h18) hL eT18    (show At (d + 4) MX10_stool 28 [.ref 1, .int x1] [] (w_X2_forget h18) Q from ?_)
      refine At_iconst (v := nI 1) (pc' := 29) iX10_stool_28 rfl (by decide) ?_
      exact At_retT iX10_stool_29 rfl hv
    · have hv := hv.1 c8
      refine At_iconst (v := nI 0) (pc' := 12) iX10_stool_11 rfl (by decide) ?_
      exact At_retF iX10_stool_12 rfl hv
-- X10_where (ex)
def L_X10_where_53 (d : Nat) (x2 : Int32) (x3 : Int32) (x4 : Int32) (x5 : Nat) (x6 : Int64) (x8 : Int32) (h : Hp) (Q : Option Value → Hp → Prop) : Prop := ∀ v1 : Value, At (d + 4) MX10_where 53 [.ref 1, v1, .int x2, .int x3, .int x4, .ref x5, .long x6, un, .int x8] [] h Q
set_option maxRecDepth 20000 in
theorem b_X10_where {d : Nat} {T : HT} (hL : Lay T) {h : Hp} (eT : h.2.2 = T) (x1 : Int32) (x2 : Int32) (x3 : Int32) (x4 : Int32)  {Q : Option Value → Hp → Prop} (hv : (((r_X10_isSong x1) = true) → ((((r_X10_isSlot x2 h) = true) → (((x3 < 0) → (Q (some (.int (-1))) h)) ∧ (¬ (x3 < 0) → ((((nI 99) < x3) → (Q (some (.int (-1))) h)) ∧ (¬ ((nI 99) < x3) → (∃ k35 : Nat, x1 = nI k35 ∧ k35 < 4 ∧ (L_X10_where_53 d x2 x3 x4 (20 + 2 * k35) (gJ h 15 0) (nI 0) h Q))))))) ∧ (¬ ((r_X10_isSlot x2 h) = true) → (Q (some (.int (-1))) h)))) ∧ (¬ ((r_X10_isSong x1) = true) → (Q (some (.int (-1))) h))) : Call (d + 4) MX10_where [.ref 1, .int x1, .int x2, .int x3, .int x4] h Q := by
  show At (d + 4) MX10_where 0 [.ref 1, .int x1, .int x2, .int x3, .int x4, un, un, un, un] [] h Q
  refine At_iload_n (pc' := 1) iX10_where_0 rfl rfl ?_
  refine At_stat (pc' := 4) iX10_where_1 rfl m_10_106 rfl rfl (Nat.le_of_ble_eq_true rfl) (Nat.le_of_ble_eq_true rfl) (Nat.le_of_ble_eq_true rfl) ?_
  refine c_X10_isSong (h := h) x1   (show At (d + 4) MX10_where 4 [.ref 1, .int x1, .int x2, .int x3, .int x4, un, un, un, un] [.int (b2i (r_X10_isSong x1))] h Q from ?_)
  refine At_zeq (t := 25) (pc' := 7) iX10_where_4 (by decide) rfl (fun c4 => ?_) (fun c4 => ?_)
  · have hv := hv.2 c4
    refine At_iconst (v := (-1)) (pc' := 26) iX10_where_25 rfl (by decide) ?_
    exact At_retI iX10_where_26 rfl hv
  · have hv := hv.1 c4
    refine At_aload_n (pc' := 8) iX10_where_7 rfl rfl ?_
    refine At_iload_n (pc' := 9) iX10_where_8 rfl rfl ?_
    refine At_virt (pc' := 12) iX10_where_9 rfl m_10_71 rfl rfl (kdK eT (kd_1 hL)) (Nat.le_of_ble_eq_true rfl) (Nat.le_of_ble_eq_true rfl) ?_
    refine c_X10_isSlot (h := h) hL eT x2   (show At (d + 4) MX10_where 12 [.ref 1, .int x1, .int x2, .int x3, .int x4, un, un, un, un] [.int (b2i (r_X10_isSlot x2 h))] h Q from ?_)
    refine At_zeq (t := 25) (pc' := 15) iX10_where_12 (by decide) rfl (fun c12 => ?_) (fun c12 => ?_)
    · have hv := hv.2 c12
      refine At_iconst (v := (-1)) (pc' := 26) iX10_where_25 rfl (by decide) ?_
      exact At_retI iX10_where_26 rfl hv
    · have hv := hv.1 c12
      refine At_iload_n (pc' := 16) iX10_where_15 rfl rfl ?_
      refine At_if_lt (t := 25) (pc' := 19) iX10_where_16 (by decide) rfl (fun c16 => ?_) (fun c16 => ?_)
      · have hv := hv.1 c16
        refine At_iconst (v := (-1)) (pc' := 26) iX10_where_25 rfl (by decide) ?_
        exact At_retI iX10_where_26 rfl hv
      · have hv := hv.2 c16
        refine At_iload_n (pc' := 20) iX10_where_19 rfl rfl ?_
        refine At_bipush (v := nI 99) (pc' := 22) iX10_where_20 rfl (by decide) ?_
        refine At_icmp_le (t := 27) (pc' := 25) iX10_where_22 (by decide) rfl (fun c22 => ?_) (fun c22 => ?_)
        · have hv := hv.2 c22
          refine At_aload_n (pc' := 28) iX10_where_27 rfl rfl ?_
          refine At_getR (pc' := 31) iX10_where_28 rfl f_10_19 (kdK eT (kd_1 hL)) (by decide) (rfH eT (rf_1_1 hL)) ?_
          refine At_getR (pc' := 34) iX10_where_31 rfl f_10_115 (kdK eT (kd_12 hL)) (by decide) (rfH eT (rf_12_5 hL)) ?_
          refine At_iload_n (pc' := 35) iX10_where_34 rfl rfl ?_
          obtain ⟨k35, e35, hk35, hv⟩ := hv
          refine At_aald (b := (20 + 2 * k35)) (pc' := 36) iX10_where_35 rfl (kdH eT (kd_14 hL)) (by decide) (by rw [e35]; exact inB_nI hk35 (by decide)) (by rw [e35, nI_clamp (by omega)]; exact rfH eT (rf_song hL hk35)) ?_
          refine At_astore (L' := [.ref 1, .int x1, .int x2, .int x3, .int x4, .ref (20 + 2 * k35), un, un, un]) (pc' := 38) iX10_where_36 rfl (Nat.le_of_ble_eq_true rfl) rfl ?_
          refine At_aload_n (pc' := 39) iX10_where_38 rfl rfl ?_
          refine At_getR (pc' := 42) iX10_where_39 rfl f_10_19 (kdK eT (kd_1 hL)) (by decide) (rfH eT (rf_1_1 hL)) ?_
          refine At_getR (pc' := 45) iX10_where_42 rfl f_10_57 (kdK eT (kd_12 hL)) (by decide) (rfH eT (rf_12_6 hL)) ?_
          refine At_getJ (pc' := 48) iX10_where_45 rfl f_10_146 (kdK eT (kd_15 hL)) (by decide) ?_
          refine At_lstore (L' := [.ref 1, .int x1, .int x2, .int x3, .int x4, .ref (20 + 2 * k35), .long (gJ h 15 0), un, un]) (pc' := 50) iX10_where_48 rfl (Nat.le_of_ble_eq_true rfl) rfl ?_
          refine At_iconst (v := nI 0) (pc' := 51) iX10_where_50 rfl (by decide) ?_
          refine At_istore (L' := [.ref 1, .int x1, .int x2, .int x3, .int x4, .ref (20 + 2 * k35), .long (gJ h 15 0), un, .int (nI 0)]) (pc' := 53) iX10_where_51 rfl (Nat.le_of_ble_eq_true rfl) rfl ?_
          exact hv _
        · have hv := hv.1 c22
          refine At_iconst (v := (-1)) (pc' := 26) iX10_where_25 rfl (by decide) ?_
          exact At_retI iX10_where_26 rfl hv
set_option maxRecDepth 20000 in
theorem b_X10_where_53 {d : Nat} {T : HT} (hL : Lay T) {h : Hp} (eT : h.2.2 = T) (x2 : Int32) (x3 : Int32) (x4 : Int32) (x5 : Nat) (x6 : Int64) (x8 : Int32) (hX5 : IsX7 T x5) {Q : Option Value → Hp → Prop} (hv : ((x8 < x3) → (((x4 = 0) → (CallJ (d + 3) MX7_sungFrom [.ref x5, .long x6, .long (gJ h 12 2), .int (gI h 12 0), .int (-1)] h (fun r107 h107 => h107.2.2 = T ∧ (L_X10_where_53 d x2 x3 x4 x5 r107 (x8 + nI 1) h107 Q)))) ∧ (¬ (x4 = 0) → (CallJ (d + 3) MX7_mirroredFrom [.ref x5, .long x6, .long (gJ h 12 2), .int (gI h 12 0)] h (fun r82 h82 => h82.2.2 = T ∧ (L_X10_where_53 d x2 x3 x4 x5 r82 (x8 + nI 1) h82 Q)))))) ∧ (¬ (x8 < x3) → (CallI (d + 3) MX6_slotWith [.long x6, .int x2, .int (gI h 12 0)] h (fun r128 h128 => h128.2.2 = T ∧ (Q (some (.int r128)) h128))))) : L_X10_where_53 d x2 x3 x4 x5 x6 x8 h Q := by
  intro v1
  refine At_iload (pc' := 55) iX10_where_53 rfl rfl ?_
  refine At_iload_n (pc' := 56) iX10_where_55 rfl rfl ?_
  refine At_icmp_ge (t := 118) (pc' := 59) iX10_where_56 (by decide) rfl (fun c56 => ?_) (fun c56 => ?_)
  · have hv := hv.2 c56
    refine At_lload (pc' := 120) iX10_where_118 rfl rfl ?_
    refine At_iload_n (pc' := 121) iX10_where_120 rfl rfl ?_
    refine At_aload_n (pc' := 122) iX10_where_121 rfl rfl ?_
    refine At_getR (pc' := 125) iX10_where_122 rfl f_10_19 (kdK eT (kd_1 hL)) (by decide) (rfH eT (rf_1_1 hL)) ?_
    refine At_getI (pc' := 128) iX10_where_125 rfl f_10_109 (kdK eT (kd_12 hL)) (by decide) ?_
    refine At_stat (pc' := 131) iX10_where_128 rfl m_10_153 rfl rfl (Nat.le_of_ble_eq_true rfl) (Nat.le_of_ble_eq_true rfl) (Nat.le_of_ble_eq_true rfl) ?_
    refine At.mono (show CallI (d + 3) MX6_slotWith [.long x6, .int x2, .int (gI h 12 0)] h _ from hv) ?_
    rintro _ h128 ⟨r128, rfl, eT128, hv⟩
    show At (d + 4) MX10_where 131 [.ref 1, v1, .int x2, .int x3, .int x4, .ref x5, .long x6, un, .int x8] [.int r128] h128 Q
    exact At_retI iX10_where_131 rfl hv
  · have hv := hv.1 c56
    refine At_iload (pc' := 61) iX10_where_59 rfl rfl ?_
    refine At_if_eq (t := 88) (pc' := 64) iX10_where_61 (by decide) rfl (fun c61 => ?_) (fun c61 => ?_)
    · have hv := hv.1 c61
      refine At_aload (pc' := 90) iX10_where_88 rfl rfl ?_
      refine At_lload (pc' := 92) iX10_where_90 rfl rfl ?_
      refine At_aload_n (pc' := 93) iX10_where_92 rfl rfl ?_
      refine At_getR (pc' := 96) iX10_where_93 rfl f_10_19 (kdK eT (kd_1 hL)) (by decide) (rfH eT (rf_1_1 hL)) ?_
      refine At_getJ (pc' := 99) iX10_where_96 rfl f_10_78 (kdK eT (kd_12 hL)) (by decide) ?_
      refine At_aload_n (pc' := 100) iX10_where_99 rfl rfl ?_
      refine At_getR (pc' := 103) iX10_where_100 rfl f_10_19 (kdK eT (kd_1 hL)) (by decide) (rfH eT (rf_1_1 hL)) ?_
      refine At_getI (pc' := 106) iX10_where_103 rfl f_10_109 (kdK eT (kd_12 hL)) (by decide) ?_
      refine At_iconst (v := (-1)) (pc' := 107) iX10_where_106 rfl (by decide) ?_
      refine At_virt (pc' := 110) iX10_where_107 rfl m_10_185 rfl rfl (kdK eT (X7_k0 hX5)) (Nat.le_of_ble_eq_true rfl) (Nat.le_of_ble_eq_true rfl) ?_
      refine At.mono (show CallJ (d + 3) MX7_sungFrom [.ref x5, .long x6, .long (gJ h 12 2), .int (gI h 12 0), .int (-1)] h _ from hv) ?_
      rintro _ h107 ⟨r107, rfl, eT107, hv⟩
      show At (d + 4) MX10_where 110 [.ref 1, v1, .int x2, .int x3, .int x4, .ref x5, .long x6, un, .int x8] [.long r107] h107 Q
      refine At_lstore (L' := [.ref 1, v1, .int x2, .int x3, .int x4, .ref x5, .long r107, un, .int x8]) (pc' := 112) iX10_where_110 rfl (Nat.le_of_ble_eq_true rfl) rfl ?_
      refine At_iinc (v := nI 1) (L' := [.ref 1, v1, .int x2, .int x3, .int x4, .ref x5, .long r107, un, .int (x8 + nI 1)]) (pc' := 115) iX10_where_112 rfl rfl (Nat.le_of_ble_eq_true rfl) (by decide) rfl ?_
      refine At_goto (t := 53) iX10_where_115 (by decide) ?_
      exact hv _
    · have hv := hv.2 c61
      refine At_aload (pc' := 66) iX10_where_64 rfl rfl ?_
      refine At_lload (pc' := 68) iX10_where_66 rfl rfl ?_
      refine At_aload_n (pc' := 69) iX10_where_68 rfl rfl ?_
      refine At_getR (pc' := 72) iX10_where_69 rfl f_10_19 (kdK eT (kd_1 hL)) (by decide) (rfH eT (rf_1_1 hL)) ?_
      refine At_getJ (pc' := 75) iX10_where_72 rfl f_10_78 (kdK eT (kd_12 hL)) (by decide) ?_
      refine At_aload_n (pc' := 76) iX10_where_75 rfl rfl ?_
      refine At_getR (pc' := 79) iX10_where_76 rfl f_10_19 (kdK eT (kd_1 hL)) (by decide) (rfH eT (rf_1_1 hL)) ?_
      refine At_getI (pc' := 82) iX10_where_79 rfl f_10_109 (kdK eT (kd_12 hL)) (by decide) ?_
      refine At_virt (pc' := 85) iX10_where_82 rfl m_10_181 rfl rfl (kdK eT (X7_k0 hX5)) (Nat.le_of_ble_eq_true rfl) (Nat.le_of_ble_eq_true rfl) ?_
      refine At.mono (show CallJ (d + 3) MX7_mirroredFrom [.ref x5, .long x6, .long (gJ h 12 2), .int (gI h 12 0)] h _ from hv) ?_
      rintro _ h82 ⟨r82, rfl, eT82, hv⟩
      show At (d + 4) MX10_where 85 [.ref 1, v1, .int x2, .int x3, .int x4, .ref x5, .long x6, un, .int x8] [.long r82] h82 Q
      refine At_goto (t := 110) iX10_where_85 (by decide) ?_
      refine At_lstore (L' := [.ref 1, v1, .int x2, .int x3, .int x4, .ref x5, .long r82, un, .int x8]) (pc' := 112) iX10_where_110 rfl (Nat.le_of_ble_eq_true rfl) rfl ?_
      refine At_iinc (v := nI 1) (L' := [.ref 1, v1, .int x2, .int x3, .int x4, .ref x5, .long r82, un, .int (x8 + nI 1)]) (pc' := 115) iX10_where_112 rfl rfl (Nat.le_of_ble_eq_true rfl) (by decide) rfl ?_
      refine At_goto (t := 53) iX10_where_115 (by decide) ?_
      exact hv _
-- X11_aMove (calls X11_next0)
set_option maxRecDepth 20000 in
theorem b_X11_aMove {d : Nat} {T : HT} (hL : Lay T) {h : Hp} (eT : h.2.2 = T) (x1 : Int32)  {Q : Option Value → Hp → Prop} (hv : CallV (d + 3) MX11_next0 [.ref 59] h (fun h1 => h1.2.2 = T ∧ (CallZ (d + 3) MX11_number [.ref 59, .int (nI 0), .int ((gI h1 60 0) - (nI 1))] h1 (fun r19 h19 => h19.2.2 = T ∧ (((r19 = true) → (((x1 = 0) → (CallZ (d + 3) MX11_need [.ref 59, .int (nI 4)] h19 (fun r33 h33 => h33.2.2 = T ∧ (((r33 = true) → (CallZ (d + 3) MX11_number [.ref 59, .int (nI 0), .int ((gI h33 60 0) - (nI 1))] h33 (fun r56 h56 => h56.2.2 = T ∧ (((r56 = true) → ((((gI h56 59 10) = (nI 5)) → (CallV (d + 3) MX11_next0 [.ref 59] h56 (fun h76 => h76.2.2 = T ∧ (CallZ (d + 3) MX11_number [.ref 59, .int (nI 0), .int (nI 9)] h76 (fun r89 h89 => h89.2.2 = T ∧ (((r89 = true) → (CallZ (d + 3) MX11_need [.ref 59, .int (nI 159)] h89 (fun r101 h101 => h101.2.2 = T ∧ (((r101 = true) → ((p_X11_puts x1 (gI h1 59 12) (gI h33 59 12) (gI h76 59 12) h101) ∧ (Q (some (.int (b2i true))) (w_X11_puts x1 (gI h1 59 12) (gI h33 59 12) (gI h76 59 12) h101)))) ∧ (¬ (r101 = true) → (Q (some (.int (b2i false))) h101)))))) ∧ (¬ (r89 = true) → (Q (some (.int (b2i false))) h89)))))))) ∧ (¬ ((gI h56 59 10) = (nI 5)) → (CallZ (d + 3) MX11_need [.ref 59, .int (nI 159)] h56 (fun r101 h101 => h101.2.2 = T ∧ (((r101 = true) → ((p_X11_puts x1 (gI h1 59 12) (gI h33 59 12) (-1) h101) ∧ (Q (some (.int (b2i true))) (w_X11_puts x1 (gI h1 59 12) (gI h33 59 12) (-1) h101)))) ∧ (¬ (r101 = true) → (Q (some (.int (b2i false))) h101)))))))) ∧ (¬ (r56 = true) → (Q (some (.int (b2i false))) h56)))))) ∧ (¬ (r33 = true) → (Q (some (.int (b2i false))) h33)))))) ∧ (¬ (x1 = 0) → (CallZ (d + 3) MX11_number [.ref 59, .int (nI 0), .int ((gI h19 60 0) - (nI 1))] h19 (fun r56 h56 => h56.2.2 = T ∧ (((r56 = true) → ((((gI h56 59 10) = (nI 5)) → (CallV (d + 3) MX11_next0 [.ref 59] h56 (fun h76 => h76.2.2 = T ∧ (CallZ (d + 3) MX11_number [.ref 59, .int (nI 0), .int (nI 9)] h76 (fun r89 h89 => h89.2.2 = T ∧ (((r89 = true) → (CallZ (d + 3) MX11_need [.ref 59, .int (nI 159)] h89 (fun r101 h101 => h101.2.2 = T ∧ (((r101 = true) → ((p_X11_puts x1 (gI h1 59 12) (gI h19 59 12) (gI h76 59 12) h101) ∧ (Q (some (.int (b2i true))) (w_X11_puts x1 (gI h1 59 12) (gI h19 59 12) (gI h76 59 12) h101)))) ∧ (¬ (r101 = true) → (Q (some (.int (b2i false))) h101)))))) ∧ (¬ (r89 = true) → (Q (some (.int (b2i false))) h89)))))))) ∧ (¬ ((gI h56 59 10) = (nI 5)) → (CallZ (d + 3) MX11_need [.ref 59, .int (nI 159)] h56 (fun r101 h101 => h101.2.2 = T ∧ (((r101 = true) → ((p_X11_puts x1 (gI h1 59 12) (gI h19 59 12) (-1) h101) ∧ (Q (some (.int (b2i true))) (w_X11_puts x1 (gI h1 59 12) (gI h19 59 12) (-1) h101)))) ∧ (¬ (r101 = true) → (Q (some (.int (b2i false))) h101)))))))) ∧ (¬ (r56 = true) → (Q (some (.int (b2i false))) h56)))))))) ∧ (¬ (r19 = true) → (Q (some (.int (b2i false))) h19))))))) : Call (d + 4) MX11_aMove [.ref 59, .int x1] h Q := by
  show At (d + 4) MX11_aMove 0 [.ref 59, .int x1, un, un, un] [] h Q
  refine At_aload_n (pc' := 1) iX11_aMove_0 rfl rfl ?_
  refine At_virt (pc' := 4) iX11_aMove_1 rfl m_11_145 rfl rfl (kdK eT (kd_59 hL)) (Nat.le_of_ble_eq_true rfl) (Nat.le_of_ble_eq_true rfl) ?_
  refine At.mono (show CallV (d + 3) MX11_next0 [.ref 59] h _ from hv) ?_
  rintro _ h1 ⟨rfl, eT1, hv⟩
  show At (d + 4) MX11_aMove 4 [.ref 59, .int x1, un, un, un] [] h1 Q
  refine At_aload_n (pc' := 5) iX11_aMove_4 rfl rfl ?_
  refine At_getI (pc' := 8) iX11_aMove_5 rfl f_11_133 (kdK eT1 (kd_59 hL)) (by decide) ?_
  refine At_istore_n (L' := [.ref 59, .int x1, .int (gI h1 59 12), un, un]) (pc' := 9) iX11_aMove_8 rfl (Nat.le_of_ble_eq_true rfl) rfl ?_
  refine At_aload_n (pc' := 10) iX11_aMove_9 rfl rfl ?_
  refine At_iconst (v := nI 0) (pc' := 11) iX11_aMove_10 rfl (by decide) ?_
  refine At_aload_n (pc' := 12) iX11_aMove_11 rfl rfl ?_
  refine At_getR (pc' := 15) iX11_aMove_12 rfl f_11_7 (kdK eT1 (kd_59 hL)) (by decide) (rfH eT1 (rf_59_0 hL)) ?_
  refine At_iconst (v := nI 0) (pc' := 16) iX11_aMove_15 rfl (by decide) ?_
  refine At_iald (pc' := 17) iX11_aMove_16 rfl (kdH eT1 (kd_60 hL)) (by decide) (show At (d + 4) MX11_aMove 17 [.ref 59, .int x1, .int (gI h1 59 12), un, un] [.int (gI h1 60 0), .int (nI 0), .ref 59] h1 Q from ?_)
  refine At_iconst (v := nI 1) (pc' := 18) iX11_aMove_17 rfl (by decide) ?_
  refine At_isub (pc' := 19) iX11_aMove_18 rfl ?_
  refine At_virt (pc' := 22) iX11_aMove_19 rfl m_11_151 rfl rfl (kdK eT1 (kd_59 hL)) (Nat.le_of_ble_eq_true rfl) (Nat.le_of_ble_eq_true rfl) ?_
  refine At.mono (show CallZ (d + 3) MX11_number [.ref 59, .int (nI 0), .int ((gI h1 60 0) - (nI 1))] h1 _ from hv) ?_
  rintro _ h19 ⟨r19, rfl, eT19, hv⟩
  show At (d + 4) MX11_aMove 22 [.ref 59, .int x1, .int (gI h1 59 12), un, un] [.int (b2i r19)] h19 Q
  refine At_zne (t := 27) (pc' := 25) iX11_aMove_22 (by decide) rfl (fun c22 => ?_) (fun c22 => ?_)
  · have hv := hv.1 c22
    refine At_iload_n (pc' := 28) iX11_aMove_27 rfl rfl ?_
    refine At_if_ne (t := 41) (pc' := 31) iX11_aMove_28 (by decide) rfl (fun c28 => ?_) (fun c28 => ?_)
    · have hv := hv.2 c28
      refine At_aload_n (pc' := 42) iX11_aMove_41 rfl rfl ?_
      refine At_getI (pc' := 45) iX11_aMove_42 rfl f_11_133 (kdK eT19 (kd_59 hL)) (by decide) ?_
      refine At_istore_n (L' := [.ref 59, .int x1, .int (gI h1 59 12), .int (gI h19 59 12), un]) (pc' := 46) iX11_aMove_45 rfl (Nat.le_of_ble_eq_true rfl) rfl ?_
      refine At_aload_n (pc' := 47) iX11_aMove_46 rfl rfl ?_
      refine At_iconst (v := nI 0) (pc' := 48) iX11_aMove_47 rfl (by decide) ?_
      refine At_aload_n (pc' := 49) iX11_aMove_48 rfl rfl ?_
      refine At_getR (pc' := 52) iX11_aMove_49 rfl f_11_7 (kdK eT19 (kd_59 hL)) (by decide) (rfH eT19 (rf_59_0 hL)) ?_
      refine At_iconst (v := nI 0) (pc' := 53) iX11_aMove_52 rfl (by decide) ?_
      refine At_iald (pc' := 54) iX11_aMove_53 rfl (kdH eT19 (kd_60 hL)) (by decide) (show At (d + 4) MX11_aMove 54 [.ref 59, .int x1, .int (gI h1 59 12), .int (gI h19 59 12), un] [.int (gI h19 60 0), .int (nI 0), .ref 59] h19 Q from ?_)
      refine At_iconst (v := nI 1) (pc' := 55) iX11_aMove_54 rfl (by decide) ?_
      refine At_isub (pc' := 56) iX11_aMove_55 rfl ?_
      refine At_virt (pc' := 59) iX11_aMove_56 rfl m_11_151 rfl rfl (kdK eT19 (kd_59 hL)) (Nat.le_of_ble_eq_true rfl) (Nat.le_of_ble_eq_true rfl) ?_
      refine At.mono (show CallZ (d + 3) MX11_number [.ref 59, .int (nI 0), .int ((gI h19 60 0) - (nI 1))] h19 _ from hv) ?_
      rintro _ h56 ⟨r56, rfl, eT56, hv⟩
      show At (d + 4) MX11_aMove 59 [.ref 59, .int x1, .int (gI h1 59 12), .int (gI h19 59 12), un] [.int (b2i r56)] h56 Q
      refine At_zne (t := 64) (pc' := 62) iX11_aMove_59 (by decide) rfl (fun c59 => ?_) (fun c59 => ?_)
      · have hv := hv.1 c59
        refine At_iconst (v := (-1)) (pc' := 65) iX11_aMove_64 rfl (by decide) ?_
        refine At_istore (L' := [.ref 59, .int x1, .int (gI h1 59 12), .int (gI h19 59 12), .int (-1)]) (pc' := 67) iX11_aMove_65 rfl (Nat.le_of_ble_eq_true rfl) rfl ?_
        refine At_aload_n (pc' := 68) iX11_aMove_67 rfl rfl ?_
        refine At_getI (pc' := 71) iX11_aMove_68 rfl f_11_121 (kdK eT56 (kd_59 hL)) (by decide) ?_
        refine At_iconst (v := nI 5) (pc' := 72) iX11_aMove_71 rfl (by decide) ?_
        refine At_icmp_ne (t := 97) (pc' := 75) iX11_aMove_72 (by decide) rfl (fun c72 => ?_) (fun c72 => ?_)
        · have hv := hv.2 c72
          refine At_aload_n (pc' := 98) iX11_aMove_97 rfl rfl ?_
          refine At_sipush (v := nI 159) (pc' := 101) iX11_aMove_98 rfl (by decide) ?_
          refine At_virt (pc' := 104) iX11_aMove_101 rfl m_11_155 rfl rfl (kdK eT56 (kd_59 hL)) (Nat.le_of_ble_eq_true rfl) (Nat.le_of_ble_eq_true rfl) ?_
          refine At.mono (show CallZ (d + 3) MX11_need [.ref 59, .int (nI 159)] h56 _ from hv) ?_
          rintro _ h101 ⟨r101, rfl, eT101, hv⟩
          show At (d + 4) MX11_aMove 104 [.ref 59, .int x1, .int (gI h1 59 12), .int (gI h19 59 12), .int (-1)] [.int (b2i r101)] h101 Q
          refine At_zne (t := 109) (pc' := 107) iX11_aMove_104 (by decide) rfl (fun c104 => ?_) (fun c104 => ?_)
          · have hv := hv.1 c104
            refine At_aload_n (pc' := 110) iX11_aMove_109 rfl rfl ?_
            refine At_iload_n (pc' := 111) iX11_aMove_110 rfl rfl ?_
            refine At_iload_n (pc' := 112) iX11_aMove_111 rfl rfl ?_
            refine At_iload_n (pc' := 113) iX11_aMove_112 rfl rfl ?_
            refine At_iload (pc' := 115) iX11_aMove_113 rfl rfl ?_
            refine At_virt (pc' := 118) iX11_aMove_115 rfl m_11_158 rfl rfl (kdK eT101 (kd_59 hL)) (Nat.le_of_ble_eq_true rfl) (Nat.le_of_ble_eq_true rfl) ?_
            obtain ⟨hn1, hv⟩ := hv
            refine c_X11_puts (h := h101) hL eT101 x1 (gI h1 59 12) (gI h19 59 12) (-1)  hn1 (show At (d + 4) MX11_aMove 118 [.ref 59, .int x1, .int (gI h1 59 12), .int (gI h19 59 12), .int (-1)] [] (w_X11_puts x1 (gI h1 59 12) (gI h19 59 12) (-1) h101) Q from ?_)
            refine At_iconst (v := nI 1) (pc' := 119) iX11_aMove_118 rfl (by decide) ?_
            exact At_retT iX11_aMove_119 rfl hv
          · have hv := hv.2 c104
            refine At_iconst (v := nI 0) (pc' := 108) iX11_aMove_107 rfl (by decide) ?_
            exact At_retF iX11_aMove_108 rfl hv
        · have hv := hv.1 c72
          refine At_aload_n (pc' := 76) iX11_aMove_75 rfl rfl ?_
          refine At_virt (pc' := 79) iX11_aMove_76 rfl m_11_145 rfl rfl (kdK eT56 (kd_59 hL)) (Nat.le_of_ble_eq_true rfl) (Nat.le_of_ble_eq_true rfl) ?_
          refine At.mono (show CallV (d + 3) MX11_next0 [.ref 59] h56 _ from hv) ?_
          rintro _ h76 ⟨rfl, eT76, hv⟩
          show At (d + 4) MX11_aMove 79 [.ref 59, .int x1, .int (gI h1 59 12), .int (gI h19 59 12), .int (-1)] [] h76 Q
          refine At_aload_n (pc' := 80) iX11_aMove_79 rfl rfl ?_
          refine At_getI (pc' := 83) iX11_aMove_80 rfl f_11_133 (kdK eT76 (kd_59 hL)) (by decide) ?_
          refine At_istore (L' := [.ref 59, .int x1, .int (gI h1 59 12), .int (gI h19 59 12), .int (gI h76 59 12)]) (pc' := 85) iX11_aMove_83 rfl (Nat.le_of_ble_eq_true rfl) rfl ?_
          refine At_aload_n (pc' := 86) iX11_aMove_85 rfl rfl ?_
          refine At_iconst (v := nI 0) (pc' := 87) iX11_aMove_86 rfl (by decide) ?_
          refine At_bipush (v := nI 9) (pc' := 89) iX11_aMove_87 rfl (by decide) ?_
          refine At_virt (pc' := 92) iX11_aMove_89 rfl m_11_151 rfl rfl (kdK eT76 (kd_59 hL)) (Nat.le_of_ble_eq_true rfl) (Nat.le_of_ble_eq_true rfl) ?_
          refine At.mono (show CallZ (d + 3) MX11_number [.ref 59, .int (nI 0), .int (nI 9)] h76 _ from hv) ?_
          rintro _ h89 ⟨r89, rfl, eT89, hv⟩
          show At (d + 4) MX11_aMove 92 [.ref 59, .int x1, .int (gI h1 59 12), .int (gI h19 59 12), .int (gI h76 59 12)] [.int (b2i r89)] h89 Q
          refine At_zne (t := 97) (pc' := 95) iX11_aMove_92 (by decide) rfl (fun c92 => ?_) (fun c92 => ?_)
          · have hv := hv.1 c92
            refine At_aload_n (pc' := 98) iX11_aMove_97 rfl rfl ?_
            refine At_sipush (v := nI 159) (pc' := 101) iX11_aMove_98 rfl (by decide) ?_
            refine At_virt (pc' := 104) iX11_aMove_101 rfl m_11_155 rfl rfl (kdK eT89 (kd_59 hL)) (Nat.le_of_ble_eq_true rfl) (Nat.le_of_ble_eq_true rfl) ?_
            refine At.mono (show CallZ (d + 3) MX11_need [.ref 59, .int (nI 159)] h89 _ from hv) ?_
            rintro _ h101 ⟨r101, rfl, eT101, hv⟩
            show At (d + 4) MX11_aMove 104 [.ref 59, .int x1, .int (gI h1 59 12), .int (gI h19 59 12), .int (gI h76 59 12)] [.int (b2i r101)] h101 Q
            refine At_zne (t := 109) (pc' := 107) iX11_aMove_104 (by decide) rfl (fun c104 => ?_) (fun c104 => ?_)
            · have hv := hv.1 c104
              refine At_aload_n (pc' := 110) iX11_aMove_109 rfl rfl ?_
              refine At_iload_n (pc' := 111) iX11_aMove_110 rfl rfl ?_
              refine At_iload_n (pc' := 112) iX11_aMove_111 rfl rfl ?_
              refine At_iload_n (pc' := 113) iX11_aMove_112 rfl rfl ?_
              refine At_iload (pc' := 115) iX11_aMove_113 rfl rfl ?_
              refine At_virt (pc' := 118) iX11_aMove_115 rfl m_11_158 rfl rfl (kdK eT101 (kd_59 hL)) (Nat.le_of_ble_eq_true rfl) (Nat.le_of_ble_eq_true rfl) ?_
              obtain ⟨hn2, hv⟩ := hv
              refine c_X11_puts (h := h101) hL eT101 x1 (gI h1 59 12) (gI h19 59 12) (gI h76 59 12)  hn2 (show At (d + 4) MX11_aMove 118 [.ref 59, .int x1, .int (gI h1 59 12), .int (gI h19 59 12), .int (gI h76 59 12)] [] (w_X11_puts x1 (gI h1 59 12) (gI h19 59 12) (gI h76 59 12) h101) Q from ?_)
              refine At_iconst (v := nI 1) (pc' := 119) iX11_aMove_118 rfl (by decide) ?_
              exact At_retT iX11_aMove_119 rfl hv
            · have hv := hv.2 c104
              refine At_iconst (v := nI 0) (pc' := 108) iX11_aMove_107 rfl (by decide) ?_
              exact At_retF iX11_aMove_108 rfl hv
          · have hv := hv.2 c92
            refine At_iconst (v := nI 0) (pc' := 96) iX11_aMove_95 rfl (by decide) ?_
            exact At_retF iX11_aMove_96 rfl hv
      · have hv := hv.2 c59
        refine At_iconst (v := nI 0) (pc' := 63) iX11_aMove_62 rfl (by decide) ?_
        exact At_retF iX11_aMove_63 rfl hv
    · have hv := hv.1 c28
      refine At_aload_n (pc' := 32) iX11_aMove_31 rfl rfl ?_
      refine At_iconst (v := nI 4) (pc' := 33) iX11_aMove_32 rfl (by decide) ?_
      refine At_virt (pc' := 36) iX11_aMove_33 rfl m_11_155 rfl rfl (kdK eT19 (kd_59 hL)) (Nat.le_of_ble_eq_true rfl) (Nat.le_of_ble_eq_true rfl) ?_
      refine At.mono (show CallZ (d + 3) MX11_need [.ref 59, .int (nI 4)] h19 _ from hv) ?_
      rintro _ h33 ⟨r33, rfl, eT33, hv⟩
      show At (d + 4) MX11_aMove 36 [.ref 59, .int x1, .int (gI h1 59 12), un, un] [.int (b2i r33)] h33 Q
      refine At_zne (t := 41) (pc' := 39) iX11_aMove_36 (by decide) rfl (fun c36 => ?_) (fun c36 => ?_)
      · have hv := hv.1 c36
        refine At_aload_n (pc' := 42) iX11_aMove_41 rfl rfl ?_
        refine At_getI (pc' := 45) iX11_aMove_42 rfl f_11_133 (kdK eT33 (kd_59 hL)) (by decide) ?_
        refine At_istore_n (L' := [.ref 59, .int x1, .int (gI h1 59 12), .int (gI h33 59 12), un]) (pc' := 46) iX11_aMove_45 rfl (Nat.le_of_ble_eq_true rfl) rfl ?_
        refine At_aload_n (pc' := 47) iX11_aMove_46 rfl rfl ?_
        refine At_iconst (v := nI 0) (pc' := 48) iX11_aMove_47 rfl (by decide) ?_
        refine At_aload_n (pc' := 49) iX11_aMove_48 rfl rfl ?_
        refine At_getR (pc' := 52) iX11_aMove_49 rfl f_11_7 (kdK eT33 (kd_59 hL)) (by decide) (rfH eT33 (rf_59_0 hL)) ?_
        refine At_iconst (v := nI 0) (pc' := 53) iX11_aMove_52 rfl (by decide) ?_
        refine At_iald (pc' := 54) iX11_aMove_53 rfl (kdH eT33 (kd_60 hL)) (by decide) (show At (d + 4) MX11_aMove 54 [.ref 59, .int x1, .int (gI h1 59 12), .int (gI h33 59 12), un] [.int (gI h33 60 0), .int (nI 0), .ref 59] h33 Q from ?_)
        refine At_iconst (v := nI 1) (pc' := 55) iX11_aMove_54 rfl (by decide) ?_
        refine At_isub (pc' := 56) iX11_aMove_55 rfl ?_
        refine At_virt (pc' := 59) iX11_aMove_56 rfl m_11_151 rfl rfl (kdK eT33 (kd_59 hL)) (Nat.le_of_ble_eq_true rfl) (Nat.le_of_ble_eq_true rfl) ?_
        refine At.mono (show CallZ (d + 3) MX11_number [.ref 59, .int (nI 0), .int ((gI h33 60 0) - (nI 1))] h33 _ from hv) ?_
        rintro _ h56 ⟨r56, rfl, eT56, hv⟩
        show At (d + 4) MX11_aMove 59 [.ref 59, .int x1, .int (gI h1 59 12), .int (gI h33 59 12), un] [.int (b2i r56)] h56 Q
        refine At_zne (t := 64) (pc' := 62) iX11_aMove_59 (by decide) rfl (fun c59 => ?_) (fun c59 => ?_)
        · have hv := hv.1 c59
          refine At_iconst (v := (-1)) (pc' := 65) iX11_aMove_64 rfl (by decide) ?_
          refine At_istore (L' := [.ref 59, .int x1, .int (gI h1 59 12), .int (gI h33 59 12), .int (-1)]) (pc' := 67) iX11_aMove_65 rfl (Nat.le_of_ble_eq_true rfl) rfl ?_
          refine At_aload_n (pc' := 68) iX11_aMove_67 rfl rfl ?_
          refine At_getI (pc' := 71) iX11_aMove_68 rfl f_11_121 (kdK eT56 (kd_59 hL)) (by decide) ?_
          refine At_iconst (v := nI 5) (pc' := 72) iX11_aMove_71 rfl (by decide) ?_
          refine At_icmp_ne (t := 97) (pc' := 75) iX11_aMove_72 (by decide) rfl (fun c72 => ?_) (fun c72 => ?_)
          · have hv := hv.2 c72
            refine At_aload_n (pc' := 98) iX11_aMove_97 rfl rfl ?_
            refine At_sipush (v := nI 159) (pc' := 101) iX11_aMove_98 rfl (by decide) ?_
            refine At_virt (pc' := 104) iX11_aMove_101 rfl m_11_155 rfl rfl (kdK eT56 (kd_59 hL)) (Nat.le_of_ble_eq_true rfl) (Nat.le_of_ble_eq_true rfl) ?_
            refine At.mono (show CallZ (d + 3) MX11_need [.ref 59, .int (nI 159)] h56 _ from hv) ?_
            rintro _ h101 ⟨r101, rfl, eT101, hv⟩
            show At (d + 4) MX11_aMove 104 [.ref 59, .int x1, .int (gI h1 59 12), .int (gI h33 59 12), .int (-1)] [.int (b2i r101)] h101 Q
            refine At_zne (t := 109) (pc' := 107) iX11_aMove_104 (by decide) rfl (fun c104 => ?_) (fun c104 => ?_)
            · have hv := hv.1 c104
              refine At_aload_n (pc' := 110) iX11_aMove_109 rfl rfl ?_
              refine At_iload_n (pc' := 111) iX11_aMove_110 rfl rfl ?_
              refine At_iload_n (pc' := 112) iX11_aMove_111 rfl rfl ?_
              refine At_iload_n (pc' := 113) iX11_aMove_112 rfl rfl ?_
              refine At_iload (pc' := 115) iX11_aMove_113 rfl rfl ?_
              refine At_virt (pc' := 118) iX11_aMove_115 rfl m_11_158 rfl rfl (kdK eT101 (kd_59 hL)) (Nat.le_of_ble_eq_true rfl) (Nat.le_of_ble_eq_true rfl) ?_
              obtain ⟨hn3, hv⟩ := hv
              refine c_X11_puts (h := h101) hL eT101 x1 (gI h1 59 12) (gI h33 59 12) (-1)  hn3 (show At (d + 4) MX11_aMove 118 [.ref 59, .int x1, .int (gI h1 59 12), .int (gI h33 59 12), .int (-1)] [] (w_X11_puts x1 (gI h1 59 12) (gI h33 59 12) (-1) h101) Q from ?_)
              refine At_iconst (v := nI 1) (pc' := 119) iX11_aMove_118 rfl (by decide) ?_
              exact At_retT iX11_aMove_119 rfl hv
            · have hv := hv.2 c104
              refine At_iconst (v := nI 0) (pc' := 108) iX11_aMove_107 rfl (by decide) ?_
              exact At_retF iX11_aMove_108 rfl hv
          · have hv := hv.1 c72
            refine At_aload_n (pc' := 76) iX11_aMove_75 rfl rfl ?_
            refine At_virt (pc' := 79) iX11_aMove_76 rfl m_11_145 rfl rfl (kdK eT56 (kd_59 hL)) (Nat.le_of_ble_eq_true rfl) (Nat.le_of_ble_eq_true rfl) ?_
            refine At.mono (show CallV (d + 3) MX11_next0 [.ref 59] h56 _ from hv) ?_
            rintro _ h76 ⟨rfl, eT76, hv⟩
            show At (d + 4) MX11_aMove 79 [.ref 59, .int x1, .int (gI h1 59 12), .int (gI h33 59 12), .int (-1)] [] h76 Q
            refine At_aload_n (pc' := 80) iX11_aMove_79 rfl rfl ?_
            refine At_getI (pc' := 83) iX11_aMove_80 rfl f_11_133 (kdK eT76 (kd_59 hL)) (by decide) ?_
            refine At_istore (L' := [.ref 59, .int x1, .int (gI h1 59 12), .int (gI h33 59 12), .int (gI h76 59 12)]) (pc' := 85) iX11_aMove_83 rfl (Nat.le_of_ble_eq_true rfl) rfl ?_
            refine At_aload_n (pc' := 86) iX11_aMove_85 rfl rfl ?_
            refine At_iconst (v := nI 0) (pc' := 87) iX11_aMove_86 rfl (by decide) ?_
            refine At_bipush (v := nI 9) (pc' := 89) iX11_aMove_87 rfl (by decide) ?_
            refine At_virt (pc' := 92) iX11_aMove_89 rfl m_11_151 rfl rfl (kdK eT76 (kd_59 hL)) (Nat.le_of_ble_eq_true rfl) (Nat.le_of_ble_eq_true rfl) ?_
            refine At.mono (show CallZ (d + 3) MX11_number [.ref 59, .int (nI 0), .int (nI 9)] h76 _ from hv) ?_
            rintro _ h89 ⟨r89, rfl, eT89, hv⟩
            show At (d + 4) MX11_aMove 92 [.ref 59, .int x1, .int (gI h1 59 12), .int (gI h33 59 12), .int (gI h76 59 12)] [.int (b2i r89)] h89 Q
            refine At_zne (t := 97) (pc' := 95) iX11_aMove_92 (by decide) rfl (fun c92 => ?_) (fun c92 => ?_)
            · have hv := hv.1 c92
              refine At_aload_n (pc' := 98) iX11_aMove_97 rfl rfl ?_
              refine At_sipush (v := nI 159) (pc' := 101) iX11_aMove_98 rfl (by decide) ?_
              refine At_virt (pc' := 104) iX11_aMove_101 rfl m_11_155 rfl rfl (kdK eT89 (kd_59 hL)) (Nat.le_of_ble_eq_true rfl) (Nat.le_of_ble_eq_true rfl) ?_
              refine At.mono (show CallZ (d + 3) MX11_need [.ref 59, .int (nI 159)] h89 _ from hv) ?_
              rintro _ h101 ⟨r101, rfl, eT101, hv⟩
              show At (d + 4) MX11_aMove 104 [.ref 59, .int x1, .int (gI h1 59 12), .int (gI h33 59 12), .int (gI h76 59 12)] [.int (b2i r101)] h101 Q
              refine At_zne (t := 109) (pc' := 107) iX11_aMove_104 (by decide) rfl (fun c104 => ?_) (fun c104 => ?_)
              · have hv := hv.1 c104
                refine At_aload_n (pc' := 110) iX11_aMove_109 rfl rfl ?_
                refine At_iload_n (pc' := 111) iX11_aMove_110 rfl rfl ?_
                refine At_iload_n (pc' := 112) iX11_aMove_111 rfl rfl ?_
                refine At_iload_n (pc' := 113) iX11_aMove_112 rfl rfl ?_
                refine At_iload (pc' := 115) iX11_aMove_113 rfl rfl ?_
                refine At_virt (pc' := 118) iX11_aMove_115 rfl m_11_158 rfl rfl (kdK eT101 (kd_59 hL)) (Nat.le_of_ble_eq_true rfl) (Nat.le_of_ble_eq_true rfl) ?_
                obtain ⟨hn4, hv⟩ := hv
                refine c_X11_puts (h := h101) hL eT101 x1 (gI h1 59 12) (gI h33 59 12) (gI h76 59 12)  hn4 (show At (d + 4) MX11_aMove 118 [.ref 59, .int x1, .int (gI h1 59 12), .int (gI h33 59 12), .int (gI h76 59 12)] [] (w_X11_puts x1 (gI h1 59 12) (gI h33 59 12) (gI h76 59 12) h101) Q from ?_)
                refine At_iconst (v := nI 1) (pc' := 119) iX11_aMove_118 rfl (by decide) ?_
                exact At_retT iX11_aMove_119 rfl hv
              · have hv := hv.2 c104
                refine At_iconst (v := nI 0) (pc' := 108) iX11_aMove_107 rfl (by decide) ?_
                exact At_retF iX11_aMove_108 rfl hv
            · have hv := hv.2 c92
              refine At_iconst (v := nI 0) (pc' := 96) iX11_aMove_95 rfl (by decide) ?_
              exact At_retF iX11_aMove_96 rfl hv
        · have hv := hv.2 c59
          refine At_iconst (v := nI 0) (pc' := 63) iX11_aMove_62 rfl (by decide) ?_
          exact At_retF iX11_aMove_63 rfl hv
      · have hv := hv.2 c36
        refine At_iconst (v := nI 0) (pc' := 40) iX11_aMove_39 rfl (by decide) ?_
        exact At_retF iX11_aMove_40 rfl hv
  · have hv := hv.2 c22
    refine At_iconst (v := nI 0) (pc' := 26) iX11_aMove_25 rfl (by decide) ?_
    exact At_retF iX11_aMove_26 rfl hv
-- X11_aTurn (calls X11_next0)
set_option maxRecDepth 20000 in
theorem b_X11_aTurn {d : Nat} {T : HT} (hL : Lay T) {h : Hp} (eT : h.2.2 = T)   {Q : Option Value → Hp → Prop} (hv : CallV (d + 3) MX11_next0 [.ref 59] h (fun h1 => h1.2.2 = T ∧ (CallZ (d + 3) MX11_number [.ref 59, .int (nI 0), .int (nI 15)] h1 (fun r13 h13 => h13.2.2 = T ∧ (((r13 = true) → (CallZ (d + 3) MX11_need [.ref 59, .int (nI 159)] h13 (fun r23 h23 => h23.2.2 = T ∧ (((r23 = true) → ((p_X11_puts (nI 2) (gI h1 59 12) (nI 0) (-1) h23) ∧ (Q (some (.int (b2i true))) (w_X11_puts (nI 2) (gI h1 59 12) (nI 0) (-1) h23)))) ∧ (¬ (r23 = true) → (Q (some (.int (b2i false))) h23)))))) ∧ (¬ (r13 = true) → (Q (some (.int (b2i false))) h13))))))) : Call (d + 4) MX11_aTurn [.ref 59] h Q := by
  show At (d + 4) MX11_aTurn 0 [.ref 59, un] [] h Q
  refine At_aload_n (pc' := 1) iX11_aTurn_0 rfl rfl ?_
  refine At_virt (pc' := 4) iX11_aTurn_1 rfl m_11_145 rfl rfl (kdK eT (kd_59 hL)) (Nat.le_of_ble_eq_true rfl) (Nat.le_of_ble_eq_true rfl) ?_
  refine At.mono (show CallV (d + 3) MX11_next0 [.ref 59] h _ from hv) ?_
  rintro _ h1 ⟨rfl, eT1, hv⟩
  show At (d + 4) MX11_aTurn 4 [.ref 59, un] [] h1 Q
  refine At_aload_n (pc' := 5) iX11_aTurn_4 rfl rfl ?_
  refine At_getI (pc' := 8) iX11_aTurn_5 rfl f_11_133 (kdK eT1 (kd_59 hL)) (by decide) ?_
  refine At_istore_n (L' := [.ref 59, .int (gI h1 59 12)]) (pc' := 9) iX11_aTurn_8 rfl (Nat.le_of_ble_eq_true rfl) rfl ?_
  refine At_aload_n (pc' := 10) iX11_aTurn_9 rfl rfl ?_
  refine At_iconst (v := nI 0) (pc' := 11) iX11_aTurn_10 rfl (by decide) ?_
  refine At_bipush (v := nI 15) (pc' := 13) iX11_aTurn_11 rfl (by decide) ?_
  refine At_virt (pc' := 16) iX11_aTurn_13 rfl m_11_151 rfl rfl (kdK eT1 (kd_59 hL)) (Nat.le_of_ble_eq_true rfl) (Nat.le_of_ble_eq_true rfl) ?_
  refine At.mono (show CallZ (d + 3) MX11_number [.ref 59, .int (nI 0), .int (nI 15)] h1 _ from hv) ?_
  rintro _ h13 ⟨r13, rfl, eT13, hv⟩
  show At (d + 4) MX11_aTurn 16 [.ref 59, .int (gI h1 59 12)] [.int (b2i r13)] h13 Q
  refine At_zeq (t := 29) (pc' := 19) iX11_aTurn_16 (by decide) rfl (fun c16 => ?_) (fun c16 => ?_)
  · have hv := hv.2 c16
    refine At_iconst (v := nI 0) (pc' := 30) iX11_aTurn_29 rfl (by decide) ?_
    exact At_retF iX11_aTurn_30 rfl hv
  · have hv := hv.1 c16
    refine At_aload_n (pc' := 20) iX11_aTurn_19 rfl rfl ?_
    refine At_sipush (v := nI 159) (pc' := 23) iX11_aTurn_20 rfl (by decide) ?_
    refine At_virt (pc' := 26) iX11_aTurn_23 rfl m_11_155 rfl rfl (kdK eT13 (kd_59 hL)) (Nat.le_of_ble_eq_true rfl) (Nat.le_of_ble_eq_true rfl) ?_
    refine At.mono (show CallZ (d + 3) MX11_need [.ref 59, .int (nI 159)] h13 _ from hv) ?_
    rintro _ h23 ⟨r23, rfl, eT23, hv⟩
    show At (d + 4) MX11_aTurn 26 [.ref 59, .int (gI h1 59 12)] [.int (b2i r23)] h23 Q
    refine At_zne (t := 31) (pc' := 29) iX11_aTurn_26 (by decide) rfl (fun c26 => ?_) (fun c26 => ?_)
    · have hv := hv.1 c26
      refine At_aload_n (pc' := 32) iX11_aTurn_31 rfl rfl ?_
      refine At_iconst (v := nI 2) (pc' := 33) iX11_aTurn_32 rfl (by decide) ?_
      refine At_iload_n (pc' := 34) iX11_aTurn_33 rfl rfl ?_
      refine At_iconst (v := nI 0) (pc' := 35) iX11_aTurn_34 rfl (by decide) ?_
      refine At_iconst (v := (-1)) (pc' := 36) iX11_aTurn_35 rfl (by decide) ?_
      refine At_virt (pc' := 39) iX11_aTurn_36 rfl m_11_158 rfl rfl (kdK eT23 (kd_59 hL)) (Nat.le_of_ble_eq_true rfl) (Nat.le_of_ble_eq_true rfl) ?_
      obtain ⟨hn1, hv⟩ := hv
      refine c_X11_puts (h := h23) hL eT23 (nI 2) (gI h1 59 12) (nI 0) (-1)  hn1 (show At (d + 4) MX11_aTurn 39 [.ref 59, .int (gI h1 59 12)] [] (w_X11_puts (nI 2) (gI h1 59 12) (nI 0) (-1) h23) Q from ?_)
      refine At_iconst (v := nI 1) (pc' := 40) iX11_aTurn_39 rfl (by decide) ?_
      exact At_retT iX11_aTurn_40 rfl hv
    · have hv := hv.2 c26
      refine At_iconst (v := nI 0) (pc' := 30) iX11_aTurn_29 rfl (by decide) ?_
      exact At_retF iX11_aTurn_30 rfl hv
