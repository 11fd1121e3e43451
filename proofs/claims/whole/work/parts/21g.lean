-- blocks between loop heads; written out by gen20.py
-- X1_singInThought (loop)
def L_X1_singInThought_3 (d : Nat) (a : Nat) (x1 : Nat) (x2 : Int64) (x4 : Int32) (x5 : Int32) (h : Hp) (Q : Option Value → Hp → Prop) : Prop := At (d + 4) MX1_singInThought 3 [.ref a, .ref x1, .long x2, un, .int x4, .int x5] [] h Q
set_option maxRecDepth 20000 in
theorem b_X1_singInThought {d : Nat} {T : HT} (hL : Lay T) {h : Hp} (eT : h.2.2 = T) (a : Nat) (x1 : Nat) (x2 : Int64) (x4 : Int32) (hA : IsX1 T a) (hA1 : IsX7 T x1) {Q : Option Value → Hp → Prop} (hv : L_X1_singInThought_3 d a x1 x2 x4 (nI 0) h Q) : Call (d + 4) MX1_singInThought [.ref a, .ref x1, .long x2, .int x4] h Q := by
  show At (d + 4) MX1_singInThought 0 [.ref a, .ref x1, .long x2, un, .int x4, un] [] h Q
  refine At_iconst (v := nI 0) (pc' := 1) iX1_singInThought_0 rfl (by decide) ?_
  refine At_istore (L' := [.ref a, .ref x1, .long x2, un, .int x4, .int (nI 0)]) (pc' := 3) iX1_singInThought_1 rfl (Nat.le_of_ble_eq_true rfl) rfl ?_
  exact hv
set_option maxRecDepth 20000 in
theorem b_X1_singInThought_3 {d : Nat} {T : HT} (hL : Lay T) {h : Hp} (eT : h.2.2 = T) (a : Nat) (x1 : Nat) (x2 : Int64) (x4 : Int32) (x5 : Int32) (hA : IsX1 T a) (hA1 : IsX7 T x1) {Q : Option Value → Hp → Prop} (hv : ((x5 < (gI h x1 0)) → ((inB x5 200 = true) ∧ (CallZ (d + 3) MX1_make [.ref a, .int (gI h (x1 + 1) x5.toNatClampNeg), .long x2, .int x4] h (fun r23 h23 => h23.2.2 = T ∧ (L_X1_singInThought_3 d a x1 x2 x4 (x5 + nI 1) h23 Q))))) ∧ (¬ (x5 < (gI h x1 0)) → (Q none h))) : L_X1_singInThought_3 d a x1 x2 x4 x5 h Q := by
  refine At_iload (pc' := 5) iX1_singInThought_3 rfl rfl ?_
  refine At_aload_n (pc' := 6) iX1_singInThought_5 rfl rfl ?_
  refine At_getI (pc' := 9) iX1_singInThought_6 rfl f_1_52 (kdK eT (X7_k0 hA1)) (by decide) ?_
  refine At_icmp_ge (t := 33) (pc' := 12) iX1_singInThought_9 (by decide) rfl (fun c9 => ?_) (fun c9 => ?_)
  · have hv := hv.2 c9
    exact At_retV iX1_singInThought_33 rfl hv
  · have hv := hv.1 c9
    refine At_aload_n (pc' := 13) iX1_singInThought_12 rfl rfl ?_
    refine At_aload_n (pc' := 14) iX1_singInThought_13 rfl rfl ?_
    refine At_getR (pc' := 17) iX1_singInThought_14 rfl f_1_57 (kdK eT (X7_k0 hA1)) (by decide) (rfH eT (X7_r1 hA1)) ?_
    refine At_iload (pc' := 19) iX1_singInThought_17 rfl rfl ?_
    obtain ⟨hn1, hv⟩ := hv
    refine At_iald (pc' := 20) iX1_singInThought_19 rfl (kdH eT (X7_k1 hA1)) hn1 (show At (d + 4) MX1_singInThought 20 [.ref a, .ref x1, .long x2, un, .int x4, .int x5] [.int (gI h (x1 + 1) x5.toNatClampNeg), .ref a] h Q from ?_)
    refine At_lload_n (pc' := 21) iX1_singInThought_20 rfl rfl ?_
    refine At_iload (pc' := 23) iX1_singInThought_21 rfl rfl ?_
    refine At_virt (pc' := 26) iX1_singInThought_23 rfl m_1_60 rfl rfl (kdK eT (X1_k0 hA)) (Nat.le_of_ble_eq_true rfl) (Nat.le_of_ble_eq_true rfl) ?_
    refine At.mono (show CallZ (d + 3) MX1_make [.ref a, .int (gI h (x1 + 1) x5.toNatClampNeg), .long x2, .int x4] h _ from hv) ?_
    rintro _ h23 ⟨r23, rfl, eT23, hv⟩
    show At (d + 4) MX1_singInThought 26 [.ref a, .ref x1, .long x2, un, .int x4, .int x5] [.int (b2i r23)] h23 Q
    refine At_pop (pc' := 27) iX1_singInThought_26 rfl rfl ?_
    refine At_iinc (v := nI 1) (L' := [.ref a, .ref x1, .long x2, un, .int x4, .int (x5 + nI 1)]) (pc' := 30) iX1_singInThought_27 rfl rfl (Nat.le_of_ble_eq_true rfl) (by decide) rfl ?_
    refine At_goto (t := 3) iX1_singInThought_30 (by decide) ?_
    exact hv
-- X3_firstOf (loop)
def L_X3_firstOf_3 (d : Nat) (x1 : Int32) (x2 : Int64) (x4 : Int64) (x6 : Int32) (x7 : Int32) (h : Hp) (Q : Option Value → Hp → Prop) : Prop := ∀ v8 : Value, At (d + 4) MX3_firstOf 3 [.ref 48, .int x1, .long x2, un, .long x4, un, .int x6, .int x7, v8] [] h Q
def L_X3_firstOf_13 (d : Nat) (x1 : Int32) (x2 : Int64) (x4 : Int64) (x6 : Int32) (x7 : Int32) (x8 : Int32) (h : Hp) (Q : Option Value → Hp → Prop) : Prop := At (d + 4) MX3_firstOf 13 [.ref 48, .int x1, .long x2, un, .long x4, un, .int x6, .int x7, .int x8] [] h Q
set_option maxRecDepth 20000 in
theorem b_X3_firstOf {d : Nat} {T : HT} (hL : Lay T) {h : Hp} (eT : h.2.2 = T) (x1 : Int32) (x2 : Int64) (x4 : Int64) (x6 : Int32)  {Q : Option Value → Hp → Prop} (hv : L_X3_firstOf_3 d x1 x2 x4 x6 (nI 0) h Q) : Call (d + 4) MX3_firstOf [.ref 48, .int x1, .long x2, .long x4, .int x6] h Q := by
  show At (d + 4) MX3_firstOf 0 [.ref 48, .int x1, .long x2, un, .long x4, un, .int x6, un, un] [] h Q
  refine At_iconst (v := nI 0) (pc' := 1) iX3_firstOf_0 rfl (by decide) ?_
  refine At_istore (L' := [.ref 48, .int x1, .long x2, un, .long x4, un, .int x6, .int (nI 0), un]) (pc' := 3) iX3_firstOf_1 rfl (Nat.le_of_ble_eq_true rfl) rfl ?_
  exact hv _
set_option maxRecDepth 20000 in
theorem b_X3_firstOf_3 {d : Nat} {T : HT} (hL : Lay T) {h : Hp} (eT : h.2.2 = T) (x1 : Int32) (x2 : Int64) (x4 : Int64) (x6 : Int32) (x7 : Int32)  {Q : Option Value → Hp → Prop} (hv : ((x7 < x6) → (L_X3_firstOf_13 d x1 x2 x4 x6 x7 (nI 0) h Q)) ∧ (¬ (x7 < x6) → (Q (some (.int (nI 0))) h))) : L_X3_firstOf_3 d x1 x2 x4 x6 x7 h Q := by
  intro v8
  refine At_iload (pc' := 5) iX3_firstOf_3 rfl rfl ?_
  refine At_iload (pc' := 7) iX3_firstOf_5 rfl rfl ?_
  refine At_icmp_ge (t := 64) (pc' := 10) iX3_firstOf_7 (by decide) rfl (fun c7 => ?_) (fun c7 => ?_)
  · have hv := hv.2 c7
    refine At_iconst (v := nI 0) (pc' := 65) iX3_firstOf_64 rfl (by decide) ?_
    exact At_retI iX3_firstOf_65 rfl hv
  · have hv := hv.1 c7
    refine At_iconst (v := nI 0) (pc' := 11) iX3_firstOf_10 rfl (by decide) ?_
    refine At_istore (L' := [.ref 48, .int x1, .long x2, un, .long x4, un, .int x6, .int x7, .int (nI 0)]) (pc' := 13) iX3_firstOf_11 rfl (Nat.le_of_ble_eq_true rfl) rfl ?_
    exact hv
set_option maxRecDepth 20000 in
theorem b_X3_firstOf_13 {d : Nat} {T : HT} (hL : Lay T) {h : Hp} (eT : h.2.2 = T) (x1 : Int32) (x2 : Int64) (x4 : Int64) (x6 : Int32) (x7 : Int32) (x8 : Int32)  {Q : Option Value → Hp → Prop} (hv : ((x8 < x6) → (CallI (d + 3) MX3_needed [.ref 48, .long (r_X6_lifted x2 x7 x8), .long x4, .int x6] h (fun r33 h33 => h33.2.2 = T ∧ (((r33 = (x1 - (nI 1))) → (Q (some (.int (r_X4_packed (nI 0) x7 x8 (-1)))) h33)) ∧ (¬ (r33 = (x1 - (nI 1))) → (L_X3_firstOf_13 d x1 x2 x4 x6 x7 (x8 + nI 1) h33 Q)))))) ∧ (¬ (x8 < x6) → (L_X3_firstOf_3 d x1 x2 x4 x6 (x7 + nI 1) h Q))) : L_X3_firstOf_13 d x1 x2 x4 x6 x7 x8 h Q := by
  refine At_iload (pc' := 15) iX3_firstOf_13 rfl rfl ?_
  refine At_iload (pc' := 17) iX3_firstOf_15 rfl rfl ?_
  refine At_icmp_ge (t := 58) (pc' := 20) iX3_firstOf_17 (by decide) rfl (fun c17 => ?_) (fun c17 => ?_)
  · have hv := hv.2 c17
    refine At_iinc (v := nI 1) (L' := [.ref 48, .int x1, .long x2, un, .long x4, un, .int x6, .int (x7 + nI 1), .int x8]) (pc' := 61) iX3_firstOf_58 rfl rfl (Nat.le_of_ble_eq_true rfl) (by decide) rfl ?_
    refine At_goto (t := 3) iX3_firstOf_61 (by decide) ?_
    exact hv _
  · have hv := hv.1 c17
    refine At_aload_n (pc' := 21) iX3_firstOf_20 rfl rfl ?_
    refine At_lload_n (pc' := 22) iX3_firstOf_21 rfl rfl ?_
    refine At_iload (pc' := 24) iX3_firstOf_22 rfl rfl ?_
    refine At_iload (pc' := 26) iX3_firstOf_24 rfl rfl ?_
    refine At_stat (pc' := 29) iX3_firstOf_26 rfl m_3_23 rfl rfl (Nat.le_of_ble_eq_true rfl) (Nat.le_of_ble_eq_true rfl) (Nat.le_of_ble_eq_true rfl) ?_
    refine c_X6_lifted (h := h) x2 x7 x8   (show At (d + 4) MX3_firstOf 29 [.ref 48, .int x1, .long x2, un, .long x4, un, .int x6, .int x7, .int x8] [.long (r_X6_lifted x2 x7 x8), .ref 48] h Q from ?_)
    refine At_lload (pc' := 31) iX3_firstOf_29 rfl rfl ?_
    refine At_iload (pc' := 33) iX3_firstOf_31 rfl rfl ?_
    refine At_virt (pc' := 36) iX3_firstOf_33 rfl m_3_29 rfl rfl (kdK eT (kd_48 hL)) (Nat.le_of_ble_eq_true rfl) (Nat.le_of_ble_eq_true rfl) ?_
    refine At.mono (show CallI (d + 3) MX3_needed [.ref 48, .long (r_X6_lifted x2 x7 x8), .long x4, .int x6] h _ from hv) ?_
    rintro _ h33 ⟨r33, rfl, eT33, hv⟩
    show At (d + 4) MX3_firstOf 36 [.ref 48, .int x1, .long x2, un, .long x4, un, .int x6, .int x7, .int x8] [.int r33] h33 Q
    refine At_iload_n (pc' := 37) iX3_firstOf_36 rfl rfl ?_
    refine At_iconst (v := nI 1) (pc' := 38) iX3_firstOf_37 rfl (by decide) ?_
    refine At_isub (pc' := 39) iX3_firstOf_38 rfl ?_
    refine At_icmp_ne (t := 52) (pc' := 42) iX3_firstOf_39 (by decide) rfl (fun c39 => ?_) (fun c39 => ?_)
    · have hv := hv.2 c39
      refine At_iinc (v := nI 1) (L' := [.ref 48, .int x1, .long x2, un, .long x4, un, .int x6, .int x7, .int (x8 + nI 1)]) (pc' := 55) iX3_firstOf_52 rfl rfl (Nat.le_of_ble_eq_true rfl) (by decide) rfl ?_
      refine At_goto (t := 13) iX3_firstOf_55 (by decide) ?_
      exact hv
    · have hv := hv.1 c39
      refine At_iconst (v := nI 0) (pc' := 43) iX3_firstOf_42 rfl (by decide) ?_
      refine At_iload (pc' := 45) iX3_firstOf_43 rfl rfl ?_
      refine At_iload (pc' := 47) iX3_firstOf_45 rfl rfl ?_
      refine At_iconst (v := (-1)) (pc' := 48) iX3_firstOf_47 rfl (by decide) ?_
      refine At_stat (pc' := 51) iX3_firstOf_48 rfl m_3_34 rfl rfl (Nat.le_of_ble_eq_true rfl) (Nat.le_of_ble_eq_true rfl) (Nat.le_of_ble_eq_true rfl) ?_
      refine c_X4_packed (h := h33) (nI 0) x7 x8 (-1)   (show At (d + 4) MX3_firstOf 51 [.ref 48, .int x1, .long x2, un, .long x4, un, .int x6, .int x7, .int x8] [.int (r_X4_packed (nI 0) x7 x8 (-1))] h33 Q from ?_)
      exact At_retI iX3_firstOf_51 rfl hv
-- X5_readLift (by choice)
set_option maxRecDepth 20000 in
theorem b_X5_readLift {d : Nat} {T : HT} (hL : Lay T) {h : Hp} (eT : h.2.2 = T)   {Q : Option Value → Hp → Prop} (hv : CallZ (d + 3) MX5_readNumber [.ref 2, .int (nI 0), .int ((gI h 2 4) - (nI 1))] h (fun r8 h8 => h8.2.2 = T ∧ (((r8 = true) → (CallZ (d + 3) MX5_readToken [.ref 2, .int (nI 7)] h8 (fun r24 h24 => h24.2.2 = T ∧ (((r24 = true) → (CallZ (d + 3) MX5_readNumber [.ref 2, .int (nI 0), .int ((gI h24 2 4) - (nI 1))] h24 (fun r38 h38 => h38.2.2 = T ∧ (((r38 = true) → (CallZ (d + 3) MX5_readAsked [.ref 2, .int (nI 0), .int (gI h8 2 7), .int (gI h38 2 7)] h38 (fun r53 h53 => h53.2.2 = T ∧ (Q (some (.int (b2i r53))) h53)))) ∧ (¬ (r38 = true) → (Q (some (.int (b2i false))) h38)))))) ∧ (¬ (r24 = true) → (Q (some (.int (b2i false))) h24)))))) ∧ (¬ (r8 = true) → (Q (some (.int (b2i false))) h8))))) : Call (d + 4) MX5_readLift [.ref 2] h Q := by
  show At (d + 4) MX5_readLift 0 [.ref 2, un] [] h Q
  refine At_aload_n (pc' := 1) iX5_readLift_0 rfl rfl ?_
  refine At_iconst (v := nI 0) (pc' := 2) iX5_readLift_1 rfl (by decide) ?_
  refine At_aload_n (pc' := 3) iX5_readLift_2 rfl rfl ?_
  refine At_getI (pc' := 6) iX5_readLift_3 rfl f_5_32 (kdK eT (kd_2 hL)) (by decide) ?_
  refine At_iconst (v := nI 1) (pc' := 7) iX5_readLift_6 rfl (by decide) ?_
  refine At_isub (pc' := 8) iX5_readLift_7 rfl ?_
  refine At_virt (pc' := 11) iX5_readLift_8 rfl m_5_105 rfl rfl (kdK eT (kd_2 hL)) (Nat.le_of_ble_eq_true rfl) (Nat.le_of_ble_eq_true rfl) ?_
  refine At.mono (show CallZ (d + 3) MX5_readNumber [.ref 2, .int (nI 0), .int ((gI h 2 4) - (nI 1))] h _ from hv) ?_
  rintro _ h8 ⟨r8, rfl, eT8, hv⟩
  show At (d + 4) MX5_readLift 11 [.ref 2, un] [.int (b2i r8)] h8 Q
  refine At_zne (t := 16) (pc' := 14) iX5_readLift_11 (by decide) rfl (fun c11 => ?_) (fun c11 => ?_)
  · have hv := hv.1 c11
    refine At_aload_n (pc' := 17) iX5_readLift_16 rfl rfl ?_
    refine At_getI (pc' := 20) iX5_readLift_17 rfl f_5_41 (kdK eT8 (kd_2 hL)) (by decide) ?_
    refine At_istore_n (L' := [.ref 2, .int (gI h8 2 7)]) (pc' := 21) iX5_readLift_20 rfl (Nat.le_of_ble_eq_true rfl) rfl ?_
    refine At_aload_n (pc' := 22) iX5_readLift_21 rfl rfl ?_
    refine At_bipush (v := nI 7) (pc' := 24) iX5_readLift_22 rfl (by decide) ?_
    refine At_virt (pc' := 27) iX5_readLift_24 rfl m_5_102 rfl rfl (kdK eT8 (kd_2 hL)) (Nat.le_of_ble_eq_true rfl) (Nat.le_of_ble_eq_true rfl) ?_
    refine At.mono (show CallZ (d + 3) MX5_readToken [.ref 2, .int (nI 7)] h8 _ from hv) ?_
    rintro _ h24 ⟨r24, rfl, eT24, hv⟩
    show At (d + 4) MX5_readLift 27 [.ref 2, .int (gI h8 2 7)] [.int (b2i r24)] h24 Q
    refine At_zeq (t := 44) (pc' := 30) iX5_readLift_27 (by decide) rfl (fun c27 => ?_) (fun c27 => ?_)
    · have hv := hv.2 c27
      refine At_iconst (v := nI 0) (pc' := 45) iX5_readLift_44 rfl (by decide) ?_
      exact At_retF iX5_readLift_45 rfl hv
    · have hv := hv.1 c27
      refine At_aload_n (pc' := 31) iX5_readLift_30 rfl rfl ?_
      refine At_iconst (v := nI 0) (pc' := 32) iX5_readLift_31 rfl (by decide) ?_
      refine At_aload_n (pc' := 33) iX5_readLift_32 rfl rfl ?_
      refine At_getI (pc' := 36) iX5_readLift_33 rfl f_5_32 (kdK eT24 (kd_2 hL)) (by decide) ?_
      refine At_iconst (v := nI 1) (pc' := 37) iX5_readLift_36 rfl (by decide) ?_
      refine At_isub (pc' := 38) iX5_readLift_37 rfl ?_
      refine At_virt (pc' := 41) iX5_readLift_38 rfl m_5_105 rfl rfl (kdK eT24 (kd_2 hL)) (Nat.le_of_ble_eq_true rfl) (Nat.le_of_ble_eq_true rfl) ?_
      refine At.mono (show CallZ (d + 3) MX5_readNumber [.ref 2, .int (nI 0), .int ((gI h24 2 4) - (nI 1))] h24 _ from hv) ?_
      rintro _ h38 ⟨r38, rfl, eT38, hv⟩
      show At (d + 4) MX5_readLift 41 [.ref 2, .int (gI h8 2 7)] [.int (b2i r38)] h38 Q
      refine At_zne (t := 46) (pc' := 44) iX5_readLift_41 (by decide) rfl (fun c41 => ?_) (fun c41 => ?_)
      · have hv := hv.1 c41
        refine At_aload_n (pc' := 47) iX5_readLift_46 rfl rfl ?_
        refine At_iconst (v := nI 0) (pc' := 48) iX5_readLift_47 rfl (by decide) ?_
        refine At_iload_n (pc' := 49) iX5_readLift_48 rfl rfl ?_
        refine At_aload_n (pc' := 50) iX5_readLift_49 rfl rfl ?_
        refine At_getI (pc' := 53) iX5_readLift_50 rfl f_5_41 (kdK eT38 (kd_2 hL)) (by decide) ?_
        refine At_virt (pc' := 56) iX5_readLift_53 rfl m_5_111 rfl rfl (kdK eT38 (kd_2 hL)) (Nat.le_of_ble_eq_true rfl) (Nat.le_of_ble_eq_true rfl) ?_
        refine At.mono (show CallZ (d + 3) MX5_readAsked [.ref 2, .int (nI 0), .int (gI h8 2 7), .int (gI h38 2 7)] h38 _ from hv) ?_
        rintro _ h53 ⟨r53, rfl, eT53, hv⟩
        show At (d + 4) MX5_readLift 56 [.ref 2, .int (gI h8 2 7)] [.int (b2i r53)] h53 Q
        exact At_retZ iX5_readLift_56 rfl (b2i_01 _) hv
      · have hv := hv.2 c41
        refine At_iconst (v := nI 0) (pc' := 45) iX5_readLift_44 rfl (by decide) ?_
        exact At_retF iX5_readLift_45 rfl hv
  · have hv := hv.2 c11
    refine At_iconst (v := nI 0) (pc' := 15) iX5_readLift_14 rfl (by decide) ?_
    exact At_retF iX5_readLift_15 rfl hv
-- X5_readSwap (by choice)
set_option maxRecDepth 20000 in
theorem b_X5_readSwap {d : Nat} {T : HT} (hL : Lay T) {h : Hp} (eT : h.2.2 = T)   {Q : Option Value → Hp → Prop} (hv : CallZ (d + 3) MX5_readNumber [.ref 2, .int (nI 0), .int ((gI h 2 4) - (nI 1))] h (fun r8 h8 => h8.2.2 = T ∧ (((r8 = true) → (CallZ (d + 3) MX5_readNumber [.ref 2, .int (nI 0), .int ((gI h8 2 4) - (nI 1))] h8 (fun r29 h29 => h29.2.2 = T ∧ (((r29 = true) → (CallZ (d + 3) MX5_readAsked [.ref 2, .int (nI 1), .int (gI h8 2 7), .int (gI h29 2 7)] h29 (fun r42 h42 => h42.2.2 = T ∧ (((r42 = true) → (Q (some (.int (b2i true))) h42)) ∧ (¬ (r42 = true) → (Q (some (.int (b2i false))) h42)))))) ∧ (¬ (r29 = true) → (Q (some (.int (b2i false))) h29)))))) ∧ (¬ (r8 = true) → (Q (some (.int (b2i false))) h8))))) : Call (d + 4) MX5_readSwap [.ref 2] h Q := by
  show At (d + 4) MX5_readSwap 0 [.ref 2, un] [] h Q
  refine At_aload_n (pc' := 1) iX5_readSwap_0 rfl rfl ?_
  refine At_iconst (v := nI 0) (pc' := 2) iX5_readSwap_1 rfl (by decide) ?_
  refine At_aload_n (pc' := 3) iX5_readSwap_2 rfl rfl ?_
  refine At_getI (pc' := 6) iX5_readSwap_3 rfl f_5_32 (kdK eT (kd_2 hL)) (by decide) ?_
  refine At_iconst (v := nI 1) (pc' := 7) iX5_readSwap_6 rfl (by decide) ?_
  refine At_isub (pc' := 8) iX5_readSwap_7 rfl ?_
  refine At_virt (pc' := 11) iX5_readSwap_8 rfl m_5_105 rfl rfl (kdK eT (kd_2 hL)) (Nat.le_of_ble_eq_true rfl) (Nat.le_of_ble_eq_true rfl) ?_
  refine At.mono (show CallZ (d + 3) MX5_readNumber [.ref 2, .int (nI 0), .int ((gI h 2 4) - (nI 1))] h _ from hv) ?_
  rintro _ h8 ⟨r8, rfl, eT8, hv⟩
  show At (d + 4) MX5_readSwap 11 [.ref 2, un] [.int (b2i r8)] h8 Q
  refine At_zne (t := 16) (pc' := 14) iX5_readSwap_11 (by decide) rfl (fun c11 => ?_) (fun c11 => ?_)
  · have hv := hv.1 c11
    refine At_aload_n (pc' := 17) iX5_readSwap_16 rfl rfl ?_
    refine At_getI (pc' := 20) iX5_readSwap_17 rfl f_5_41 (kdK eT8 (kd_2 hL)) (by decide) ?_
    refine At_istore_n (L' := [.ref 2, .int (gI h8 2 7)]) (pc' := 21) iX5_readSwap_20 rfl (Nat.le_of_ble_eq_true rfl) rfl ?_
    refine At_aload_n (pc' := 22) iX5_readSwap_21 rfl rfl ?_
    refine At_iconst (v := nI 0) (pc' := 23) iX5_readSwap_22 rfl (by decide) ?_
    refine At_aload_n (pc' := 24) iX5_readSwap_23 rfl rfl ?_
    refine At_getI (pc' := 27) iX5_readSwap_24 rfl f_5_32 (kdK eT8 (kd_2 hL)) (by decide) ?_
    refine At_iconst (v := nI 1) (pc' := 28) iX5_readSwap_27 rfl (by decide) ?_
    refine At_isub (pc' := 29) iX5_readSwap_28 rfl ?_
    refine At_virt (pc' := 32) iX5_readSwap_29 rfl m_5_105 rfl rfl (kdK eT8 (kd_2 hL)) (Nat.le_of_ble_eq_true rfl) (Nat.le_of_ble_eq_true rfl) ?_
    refine At.mono (show CallZ (d + 3) MX5_readNumber [.ref 2, .int (nI 0), .int ((gI h8 2 4) - (nI 1))] h8 _ from hv) ?_
    rintro _ h29 ⟨r29, rfl, eT29, hv⟩
    show At (d + 4) MX5_readSwap 32 [.ref 2, .int (gI h8 2 7)] [.int (b2i r29)] h29 Q
    refine At_zeq (t := 52) (pc' := 35) iX5_readSwap_32 (by decide) rfl (fun c32 => ?_) (fun c32 => ?_)
    · have hv := hv.2 c32
      refine At_iconst (v := nI 0) (pc' := 53) iX5_readSwap_52 rfl (by decide) ?_
      exact At_retF iX5_readSwap_53 rfl hv
    · have hv := hv.1 c32
      refine At_aload_n (pc' := 36) iX5_readSwap_35 rfl rfl ?_
      refine At_iconst (v := nI 1) (pc' := 37) iX5_readSwap_36 rfl (by decide) ?_
      refine At_iload_n (pc' := 38) iX5_readSwap_37 rfl rfl ?_
      refine At_aload_n (pc' := 39) iX5_readSwap_38 rfl rfl ?_
      refine At_getI (pc' := 42) iX5_readSwap_39 rfl f_5_41 (kdK eT29 (kd_2 hL)) (by decide) ?_
      refine At_virt (pc' := 45) iX5_readSwap_42 rfl m_5_111 rfl rfl (kdK eT29 (kd_2 hL)) (Nat.le_of_ble_eq_true rfl) (Nat.le_of_ble_eq_true rfl) ?_
      refine At.mono (show CallZ (d + 3) MX5_readAsked [.ref 2, .int (nI 1), .int (gI h8 2 7), .int (gI h29 2 7)] h29 _ from hv) ?_
      rintro _ h42 ⟨r42, rfl, eT42, hv⟩
      show At (d + 4) MX5_readSwap 45 [.ref 2, .int (gI h8 2 7)] [.int (b2i r42)] h42 Q
      refine At_zeq (t := 52) (pc' := 48) iX5_readSwap_45 (by decide) rfl (fun c45 => ?_) (fun c45 => ?_)
      · have hv := hv.2 c45
        refine At_iconst (v := nI 0) (pc' := 53) iX5_readSwap_52 rfl (by decide) ?_
        exact At_retF iX5_readSwap_53 rfl hv
      · have hv := hv.1 c45
        refine At_iconst (v := nI 1) (pc' := 49) iX5_readSwap_48 rfl (by decide) ?_
        refine At_goto (t := 53) iX5_readSwap_49 (by decide) ?_
        exact At_retT iX5_readSwap_53 rfl hv
  · have hv := hv.2 c11
    refine At_iconst (v := nI 0) (pc' := 15) iX5_readSwap_14 rfl (by decide) ?_
    exact At_retF iX5_readSwap_15 rfl hv
-- X7_singingsBack (loop)
def L_X7_singingsBack_9 (d : Nat) (a : Nat) (x1 : Int64) (x3 : Int64) (x5 : Int32) (x6 : Int64) (x8 : Int64) (x10 : Int32) (h : Hp) (Q : Option Value → Hp → Prop) : Prop := At (d + 4) MX7_singingsBack 9 [.ref a, .long x1, un, .long x3, un, .int x5, .long x6, un, .long x8, un, .int x10] [] h Q
set_option maxRecDepth 20000 in
theorem b_X7_singingsBack {d : Nat} {T : HT} (hL : Lay T) {h : Hp} (eT : h.2.2 = T) (a : Nat) (x1 : Int64) (x3 : Int64) (x5 : Int32) (hA : IsX7 T a) {Q : Option Value → Hp → Prop} (hv : L_X7_singingsBack_9 d a x1 x3 x5 x1 x1 (nI 1) h Q) : Call (d + 4) MX7_singingsBack [.ref a, .long x1, .long x3, .int x5] h Q := by
  show At (d + 4) MX7_singingsBack 0 [.ref a, .long x1, un, .long x3, un, .int x5, un, un, un, un, un] [] h Q
  refine At_lload_n (pc' := 1) iX7_singingsBack_0 rfl rfl ?_
  refine At_lstore (L' := [.ref a, .long x1, un, .long x3, un, .int x5, .long x1, un, un, un, un]) (pc' := 3) iX7_singingsBack_1 rfl (Nat.le_of_ble_eq_true rfl) rfl ?_
  refine At_lload_n (pc' := 4) iX7_singingsBack_3 rfl rfl ?_
  refine At_lstore (L' := [.ref a, .long x1, un, .long x3, un, .int x5, .long x1, un, .long x1, un, un]) (pc' := 6) iX7_singingsBack_4 rfl (Nat.le_of_ble_eq_true rfl) rfl ?_
  refine At_iconst (v := nI 1) (pc' := 7) iX7_singingsBack_6 rfl (by decide) ?_
  refine At_istore (L' := [.ref a, .long x1, un, .long x3, un, .int x5, .long x1, un, .long x1, un, .int (nI 1)]) (pc' := 9) iX7_singingsBack_7 rfl (Nat.le_of_ble_eq_true rfl) rfl ?_
  exact hv
set_option maxRecDepth 20000 in
theorem b_X7_singingsBack_9 {d : Nat} {T : HT} (hL : Lay T) {h : Hp} (eT : h.2.2 = T) (a : Nat) (x1 : Int64) (x3 : Int64) (x5 : Int32) (x6 : Int64) (x8 : Int64) (x10 : Int32) (hA : IsX7 T a) {Q : Option Value → Hp → Prop} (hv : (((nI 5040) < x10) → (Q (some (.int (-1))) h)) ∧ (¬ ((nI 5040) < x10) → (CallJ (d + 3) MX7_sungFrom [.ref a, .long x6, .long x3, .int x5, .int (-1)] h (fun r24 h24 => h24.2.2 = T ∧ ((((lg_cmp r24 x1) = 0) → (Q (some (.int x10)) h24)) ∧ (¬ ((lg_cmp r24 x1) = 0) → ((((lg_cmp r24 x8) = 0) → (Q (some (.int (-1))) h24)) ∧ (¬ ((lg_cmp r24 x8) = 0) → ((((r_J6_bitCount_0f7a4 x10) = (nI 1)) → (L_X7_singingsBack_9 d a x1 x3 x5 r24 r24 (x10 + nI 1) h24 Q)) ∧ (¬ ((r_J6_bitCount_0f7a4 x10) = (nI 1)) → (L_X7_singingsBack_9 d a x1 x3 x5 r24 x8 (x10 + nI 1) h24 Q))))))))))) : L_X7_singingsBack_9 d a x1 x3 x5 x6 x8 x10 h Q := by
  refine At_iload (pc' := 11) iX7_singingsBack_9 rfl rfl ?_
  refine At_sipush (v := nI 5040) (pc' := 14) iX7_singingsBack_11 rfl (by decide) ?_
  refine At_icmp_gt (t := 68) (pc' := 17) iX7_singingsBack_14 (by decide) rfl (fun c14 => ?_) (fun c14 => ?_)
  · have hv := hv.1 c14
    refine At_iconst (v := (-1)) (pc' := 69) iX7_singingsBack_68 rfl (by decide) ?_
    exact At_retI iX7_singingsBack_69 rfl hv
  · have hv := hv.2 c14
    refine At_aload_n (pc' := 18) iX7_singingsBack_17 rfl rfl ?_
    refine At_lload (pc' := 20) iX7_singingsBack_18 rfl rfl ?_
    refine At_lload_n (pc' := 21) iX7_singingsBack_20 rfl rfl ?_
    refine At_iload (pc' := 23) iX7_singingsBack_21 rfl rfl ?_
    refine At_iconst (v := (-1)) (pc' := 24) iX7_singingsBack_23 rfl (by decide) ?_
    refine At_virt (pc' := 27) iX7_singingsBack_24 rfl m_7_49 rfl rfl (kdK eT (X7_k0 hA)) (Nat.le_of_ble_eq_true rfl) (Nat.le_of_ble_eq_true rfl) ?_
    refine At.mono (show CallJ (d + 3) MX7_sungFrom [.ref a, .long x6, .long x3, .int x5, .int (-1)] h _ from hv) ?_
    rintro _ h24 ⟨r24, rfl, eT24, hv⟩
    show At (d + 4) MX7_singingsBack 27 [.ref a, .long x1, un, .long x3, un, .int x5, .long x6, un, .long x8, un, .int x10] [.long r24] h24 Q
    refine At_lstore (L' := [.ref a, .long x1, un, .long x3, un, .int x5, .long r24, un, .long x8, un, .int x10]) (pc' := 29) iX7_singingsBack_27 rfl (Nat.le_of_ble_eq_true rfl) rfl ?_
    refine At_lload (pc' := 31) iX7_singingsBack_29 rfl rfl ?_
    refine At_lload_n (pc' := 32) iX7_singingsBack_31 rfl rfl ?_
    refine At_lcmp (pc' := 33) iX7_singingsBack_32 rfl ?_
    refine At_if_ne (t := 39) (pc' := 36) iX7_singingsBack_33 (by decide) rfl (fun c33 => ?_) (fun c33 => ?_)
    · have hv := hv.2 c33
      refine At_lload (pc' := 41) iX7_singingsBack_39 rfl rfl ?_
      refine At_lload (pc' := 43) iX7_singingsBack_41 rfl rfl ?_
      refine At_lcmp (pc' := 44) iX7_singingsBack_43 rfl ?_
      refine At_if_ne (t := 49) (pc' := 47) iX7_singingsBack_44 (by decide) rfl (fun c44 => ?_) (fun c44 => ?_)
      · have hv := hv.2 c44
        refine At_iload (pc' := 51) iX7_singingsBack_49 rfl rfl ?_
        refine At_stat (pc' := 54) iX7_singingsBack_51 rfl m_7_53 rfl rfl (Nat.le_of_ble_eq_true rfl) (Nat.le_of_ble_eq_true rfl) (Nat.le_of_ble_eq_true rfl) ?_
        refine c_J6_bitCount_0f7a4 (h := h24) x10   (show At (d + 4) MX7_singingsBack 54 [.ref a, .long x1, un, .long x3, un, .int x5, .long r24, un, .long x8, un, .int x10] [.int (r_J6_bitCount_0f7a4 x10)] h24 Q from ?_)
        refine At_iconst (v := nI 1) (pc' := 55) iX7_singingsBack_54 rfl (by decide) ?_
        refine At_icmp_ne (t := 62) (pc' := 58) iX7_singingsBack_55 (by decide) rfl (fun c55 => ?_) (fun c55 => ?_)
        · have hv := hv.2 c55
          refine At_iinc (v := nI 1) (L' := [.ref a, .long x1, un, .long x3, un, .int x5, .long r24, un, .long x8, un, .int (x10 + nI 1)]) (pc' := 65) iX7_singingsBack_62 rfl rfl (Nat.le_of_ble_eq_true rfl) (by decide) rfl ?_
          refine At_goto (t := 9) iX7_singingsBack_65 (by decide) ?_
          exact hv
        · have hv := hv.1 c55
          refine At_lload (pc' := 60) iX7_singingsBack_58 rfl rfl ?_
          refine At_lstore (L' := [.ref a, .long x1, un, .long x3, un, .int x5, .long r24, un, .long r24, un, .int x10]) (pc' := 62) iX7_singingsBack_60 rfl (Nat.le_of_ble_eq_true rfl) rfl ?_
          refine At_iinc (v := nI 1) (L' := [.ref a, .long x1, un, .long x3, un, .int x5, .long r24, un, .long r24, un, .int (x10 + nI 1)]) (pc' := 65) iX7_singingsBack_62 rfl rfl (Nat.le_of_ble_eq_true rfl) (by decide) rfl ?_
          refine At_goto (t := 9) iX7_singingsBack_65 (by decide) ?_
          exact hv
      · have hv := hv.1 c44
        refine At_iconst (v := (-1)) (pc' := 48) iX7_singingsBack_47 rfl (by decide) ?_
        exact At_retI iX7_singingsBack_48 rfl hv
    · have hv := hv.1 c33
      refine At_iload (pc' := 38) iX7_singingsBack_36 rfl rfl ?_
      exact At_retI iX7_singingsBack_38 rfl hv
-- X8_singOnce (loop)
def L_X8_singOnce_4 (d : Nat) (a : Nat) (x1 : Nat) (x2 : Int32) (x3 : Int32) (h : Hp) (Q : Option Value → Hp → Prop) : Prop := ∀ v4 v5 v6 : Value, At (d + 4) MX8_singOnce 4 [.ref a, .ref x1, .int x2, .int x3, v4, v5, v6] [] h Q
set_option maxRecDepth 20000 in
theorem b_X8_singOnce {d : Nat} {T : HT} (hL : Lay T) {h : Hp} (eT : h.2.2 = T) (a : Nat) (x1 : Nat) (hA : IsX8 T a) (hA1 : IsX7 T x1) {Q : Option Value → Hp → Prop} (hv : L_X8_singOnce_4 d a x1 (nI 0) (nI 0) h Q) : Call (d + 4) MX8_singOnce [.ref a, .ref x1] h Q := by
  show At (d + 4) MX8_singOnce 0 [.ref a, .ref x1, un, un, un, un, un] [] h Q
  refine At_iconst (v := nI 0) (pc' := 1) iX8_singOnce_0 rfl (by decide) ?_
  refine At_istore_n (L' := [.ref a, .ref x1, .int (nI 0), un, un, un, un]) (pc' := 2) iX8_singOnce_1 rfl (Nat.le_of_ble_eq_true rfl) rfl ?_
  refine At_iconst (v := nI 0) (pc' := 3) iX8_singOnce_2 rfl (by decide) ?_
  refine At_istore_n (L' := [.ref a, .ref x1, .int (nI 0), .int (nI 0), un, un, un]) (pc' := 4) iX8_singOnce_3 rfl (Nat.le_of_ble_eq_true rfl) rfl ?_
  exact hv _ _ _
set_option maxRecDepth 20000 in
theorem b_X8_singOnce_4 {d : Nat} {T : HT} (hL : Lay T) {h : Hp} (eT : h.2.2 = T) (a : Nat) (x1 : Nat) (x2 : Int32) (x3 : Int32) (hA : IsX8 T a) (hA1 : IsX7 T x1) {Q : Option Value → Hp → Prop} (hv : ((x3 < (gI h x1 0)) → ((inB x3 200 = true) ∧ ((((r_X4_isTurn (gI h (x1 + 1) x3.toNatClampNeg)) = true) → (CallZ (d + 3) MX1_make [.ref (a + 3), .int (gI h (x1 + 1) x3.toNatClampNeg), .long (gJ h a 2), .int (gI h a 0)] h (fun r95 h95 => h95.2.2 = T ∧ (((r95 = true) → ((p_X8_addRow a (r_X6_get (gJ h (a + 3) 0) (r_X4_from (gI h (x1 + 1) x3.toNatClampNeg))) h95) ∧ (L_X8_singOnce_4 d a x1 (x2 + nI 1) (x3 + nI 1) (w_X8_addRow a (r_X6_get (gJ h (a + 3) 0) (r_X4_from (gI h (x1 + 1) x3.toNatClampNeg))) h95) Q))) ∧ (¬ (r95 = true) → (L_X8_singOnce_4 d a x1 x2 (x3 + nI 1) h95 Q)))))) ∧ (¬ ((r_X4_isTurn (gI h (x1 + 1) x3.toNatClampNeg)) = true) → (((0 < (gI h a 1)) → ((p_X1_draw (a + 3) (nI 1000) h) ∧ ((((r_X1_draw (a + 3) (nI 1000) h) < (gI (w_X1_draw (a + 3) (nI 1000) h) a 1)) → (L_X8_singOnce_4 d a x1 x2 (x3 + nI 1) (w_X1_draw (a + 3) (nI 1000) h) Q)) ∧ (¬ ((r_X1_draw (a + 3) (nI 1000) h) < (gI (w_X1_draw (a + 3) (nI 1000) h) a 1)) → (CallZ (d + 3) MX1_make [.ref (a + 3), .int (gI h (x1 + 1) x3.toNatClampNeg), .long (gJ (w_X1_draw (a + 3) (nI 1000) h) a 2), .int (gI (w_X1_draw (a + 3) (nI 1000) h) a 0)] (w_X1_draw (a + 3) (nI 1000) h) (fun r95 h95 => h95.2.2 = T ∧ (((r95 = true) → ((p_X8_addRow a (r_X6_get (gJ h (a + 3) 0) (r_X4_from (gI h (x1 + 1) x3.toNatClampNeg))) h95) ∧ (L_X8_singOnce_4 d a x1 (x2 + nI 1) (x3 + nI 1) (w_X8_addRow a (r_X6_get (gJ h (a + 3) 0) (r_X4_from (gI h (x1 + 1) x3.toNatClampNeg))) h95) Q))) ∧ (¬ (r95 = true) → (L_X8_singOnce_4 d a x1 x2 (x3 + nI 1) h95 Q))))))))) ∧ (¬ (0 < (gI h a 1)) → (CallZ (d + 3) MX1_make [.ref (a + 3), .int (gI h (x1 + 1) x3.toNatClampNeg), .long (gJ h a 2), .int (gI h a 0)] h (fun r95 h95 => h95.2.2 = T ∧ (((r95 = true) → ((p_X8_addRow a (r_X6_get (gJ h (a + 3) 0) (r_X4_from (gI h (x1 + 1) x3.toNatClampNeg))) h95) ∧ (L_X8_singOnce_4 d a x1 (x2 + nI 1) (x3 + nI 1) (w_X8_addRow a (r_X6_get (gJ h (a + 3) 0) (r_X4_from (gI h (x1 + 1) x3.toNatClampNeg))) h95) Q))) ∧ (¬ (r95 = true) → (L_X8_singOnce_4 d a x1 x2 (x3 + nI 1) h95 Q))))))))))) ∧ (¬ (x3 < (gI h x1 0)) → (Q (some (.int x2)) h))) : L_X8_singOnce_4 d a x1 x2 x3 h Q := by
  intro v4 v5 v6
  refine At_iload_n (pc' := 5) iX8_singOnce_4 rfl rfl ?_
  refine At_aload_n (pc' := 6) iX8_singOnce_5 rfl rfl ?_
  refine At_getI (pc' := 9) iX8_singOnce_6 rfl f_8_55 (kdK eT (X7_k0 hA1)) (by decide) ?_
  refine At_icmp_ge (t := 116) (pc' := 12) iX8_singOnce_9 (by decide) rfl (fun c9 => ?_) (fun c9 => ?_)
  · have hv := hv.2 c9
    refine At_iload_n (pc' := 117) iX8_singOnce_116 rfl rfl ?_
    exact At_retI iX8_singOnce_117 rfl hv
  · have hv := hv.1 c9
    refine At_aload_n (pc' := 13) iX8_singOnce_12 rfl rfl ?_
    refine At_getR (pc' := 16) iX8_singOnce_13 rfl f_8_85 (kdK eT (X7_k0 hA1)) (by decide) (rfH eT (X7_r1 hA1)) ?_
    refine At_iload_n (pc' := 17) iX8_singOnce_16 rfl rfl ?_
    obtain ⟨hn1, hv⟩ := hv
    refine At_iald (pc' := 18) iX8_singOnce_17 rfl (kdH eT (X7_k1 hA1)) hn1 (show At (d + 4) MX8_singOnce 18 [.ref a, .ref x1, .int x2, .int x3, v4, v5, v6] [.int (gI h (x1 + 1) x3.toNatClampNeg)] h Q from ?_)
    refine At_istore (L' := [.ref a, .ref x1, .int x2, .int x3, .int (gI h (x1 + 1) x3.toNatClampNeg), v5, v6]) (pc' := 20) iX8_singOnce_18 rfl (Nat.le_of_ble_eq_true rfl) rfl ?_
    refine At_aload_n (pc' := 21) iX8_singOnce_20 rfl rfl ?_
    refine At_getR (pc' := 24) iX8_singOnce_21 rfl f_8_38 (kdK eT (X8_k0 hA)) (by decide) (rfH eT (X8_r6 hA)) ?_
    refine At_getJ (pc' := 27) iX8_singOnce_24 rfl f_8_88 (kdK eT (X1_k0 (X8_cord hA))) (by decide) ?_
    refine At_iload (pc' := 29) iX8_singOnce_27 rfl rfl ?_
    refine At_stat (pc' := 32) iX8_singOnce_29 rfl m_8_91 rfl rfl (Nat.le_of_ble_eq_true rfl) (Nat.le_of_ble_eq_true rfl) (Nat.le_of_ble_eq_true rfl) ?_
    refine c_X4_from (h := h) (gI h (x1 + 1) x3.toNatClampNeg)   (show At (d + 4) MX8_singOnce 32 [.ref a, .ref x1, .int x2, .int x3, .int (gI h (x1 + 1) x3.toNatClampNeg), v5, v6] [.int (r_X4_from (gI h (x1 + 1) x3.toNatClampNeg)), .long (gJ h (a + 3) 0)] h Q from ?_)
    refine At_stat (pc' := 35) iX8_singOnce_32 rfl m_8_75 rfl rfl (Nat.le_of_ble_eq_true rfl) (Nat.le_of_ble_eq_true rfl) (Nat.le_of_ble_eq_true rfl) ?_
    refine c_X6_get (h := h) (gJ h (a + 3) 0) (r_X4_from (gI h (x1 + 1) x3.toNatClampNeg))   (show At (d + 4) MX8_singOnce 35 [.ref a, .ref x1, .int x2, .int x3, .int (gI h (x1 + 1) x3.toNatClampNeg), v5, v6] [.int (r_X6_get (gJ h (a + 3) 0) (r_X4_from (gI h (x1 + 1) x3.toNatClampNeg)))] h Q from ?_)
    refine At_istore (L' := [.ref a, .ref x1, .int x2, .int x3, .int (gI h (x1 + 1) x3.toNatClampNeg), .int (r_X6_get (gJ h (a + 3) 0) (r_X4_from (gI h (x1 + 1) x3.toNatClampNeg))), v6]) (pc' := 37) iX8_singOnce_35 rfl (Nat.le_of_ble_eq_true rfl) rfl ?_
    refine At_iload (pc' := 39) iX8_singOnce_37 rfl rfl ?_
    refine At_stat (pc' := 42) iX8_singOnce_39 rfl m_8_97 rfl rfl (Nat.le_of_ble_eq_true rfl) (Nat.le_of_ble_eq_true rfl) (Nat.le_of_ble_eq_true rfl) ?_
    refine c_X4_isTurn (h := h) (gI h (x1 + 1) x3.toNatClampNeg)   (show At (d + 4) MX8_singOnce 42 [.ref a, .ref x1, .int x2, .int x3, .int (gI h (x1 + 1) x3.toNatClampNeg), .int (r_X6_get (gJ h (a + 3) 0) (r_X4_from (gI h (x1 + 1) x3.toNatClampNeg))), v6] [.int (b2i (r_X4_isTurn (gI h (x1 + 1) x3.toNatClampNeg)))] h Q from ?_)
    refine At_zne (t := 73) (pc' := 45) iX8_singOnce_42 (by decide) rfl (fun c42 => ?_) (fun c42 => ?_)
    · have hv := hv.1 c42
      refine At_iconst (v := nI 0) (pc' := 74) iX8_singOnce_73 rfl (by decide) ?_
      refine At_istore (L' := [.ref a, .ref x1, .int x2, .int x3, .int (gI h (x1 + 1) x3.toNatClampNeg), .int (r_X6_get (gJ h (a + 3) 0) (r_X4_from (gI h (x1 + 1) x3.toNatClampNeg))), .int (nI 0)]) (pc' := 76) iX8_singOnce_74 rfl (Nat.le_of_ble_eq_true rfl) rfl ?_
      refine At_iload (pc' := 78) iX8_singOnce_76 rfl rfl ?_
      refine At_if_ne (t := 110) (pc' := 81) iX8_singOnce_78 (by decide) rfl (fun c78 => absurd c78 (by decide)) (fun c78 => ?_)
      refine At_aload_n (pc' := 82) iX8_singOnce_81 rfl rfl ?_
      refine At_getR (pc' := 85) iX8_singOnce_82 rfl f_8_38 (kdK eT (X8_k0 hA)) (by decide) (rfH eT (X8_r6 hA)) ?_
      refine At_iload (pc' := 87) iX8_singOnce_85 rfl rfl ?_
      refine At_aload_n (pc' := 88) iX8_singOnce_87 rfl rfl ?_
      refine At_getJ (pc' := 91) iX8_singOnce_88 rfl f_8_18 (kdK eT (X8_k0 hA)) (by decide) ?_
      refine At_aload_n (pc' := 92) iX8_singOnce_91 rfl rfl ?_
      refine At_getI (pc' := 95) iX8_singOnce_92 rfl f_8_9 (kdK eT (X8_k0 hA)) (by decide) ?_
      refine At_virt (pc' := 98) iX8_singOnce_95 rfl m_8_104 rfl rfl (kdK eT (X1_k0 (X8_cord hA))) (Nat.le_of_ble_eq_true rfl) (Nat.le_of_ble_eq_true rfl) ?_
      refine At.mono (show CallZ (d + 3) MX1_make [.ref (a + 3), .int (gI h (x1 + 1) x3.toNatClampNeg), .long (gJ h a 2), .int (gI h a 0)] h _ from hv) ?_
      rintro _ h95 ⟨r95, rfl, eT95, hv⟩
      show At (d + 4) MX8_singOnce 98 [.ref a, .ref x1, .int x2, .int x3, .int (gI h (x1 + 1) x3.toNatClampNeg), .int (r_X6_get (gJ h (a + 3) 0) (r_X4_from (gI h (x1 + 1) x3.toNatClampNeg))), .int (nI 0)] [.int (b2i r95)] h95 Q
      refine At_zeq (t := 110) (pc' := 101) iX8_singOnce_98 (by decide) rfl (fun c98 => ?_) (fun c98 => ?_)
      · have hv := hv.2 c98
        refine At_iinc (v := nI 1) (L' := [.ref a, .ref x1, .int x2, .int (x3 + nI 1), .int (gI h (x1 + 1) x3.toNatClampNeg), .int (r_X6_get (gJ h (a + 3) 0) (r_X4_from (gI h (x1 + 1) x3.toNatClampNeg))), .int (nI 0)]) (pc' := 113) iX8_singOnce_110 rfl rfl (Nat.le_of_ble_eq_true rfl) (by decide) rfl ?_
        refine At_goto (t := 4) iX8_singOnce_113 (by decide) ?_
        exact hv _ _ _
      · have hv := hv.1 c98
        refine At_aload_n (pc' := 102) iX8_singOnce_101 rfl rfl ?_
        refine At_iload (pc' := 104) iX8_singOnce_102 rfl rfl ?_
        refine At_virt (pc' := 107) iX8_singOnce_104 rfl m_8_108 rfl rfl (kdK eT95 (X8_k0 hA)) (Nat.le_of_ble_eq_true rfl) (Nat.le_of_ble_eq_true rfl) ?_
        obtain ⟨hn2, hv⟩ := hv
        refine c_X8_addRow (h := h95) hL eT95 a (r_X6_get (gJ h (a + 3) 0) (r_X4_from (gI h (x1 + 1) x3.toNatClampNeg))) hA hn2 (show At (d + 4) MX8_singOnce 107 [.ref a, .ref x1, .int x2, .int x3, .int (gI h (x1 + 1) x3.toNatClampNeg), .int (r_X6_get (gJ h (a + 3) 0) (r_X4_from (gI h (x1 + 1) x3.toNatClampNeg))), .int (nI 0)] [] (w_X8_addRow a (r_X6_get (gJ h (a + 3) 0) (r_X4_from (gI h (x1 + 1) x3.toNatClampNeg))) h95) Q from ?_)
        refine At_iinc (v := nI 1) (L' := [.ref a, .ref x1, .int (x2 + nI 1), .int x3, .int (gI h (x1 + 1) x3.toNatClampNeg), .int (r_X6_get (gJ h (a + 3) 0) (r_X4_from (gI h (x1 + 1) x3.toNatClampNeg))), .int (nI 0)]) (pc' := 110) iX8_singOnce_107 rfl rfl (Nat.le_of_ble_eq_true rfl) (by decide) rfl ?_
        refine At_iinc (v := nI 1) (L' := [.ref a, .ref x1, .int (x2 + nI 1), .int (x3 + nI 1), .int (gI h (x1 + 1) x3.toNatClampNeg), .int (r_X6_get (gJ h (a + 3) 0) (r_X4_from (gI h (x1 + 1) x3.toNatClampNeg))), .int (nI 0)]) (pc' := 113) iX8_singOnce_110 rfl rfl (Nat.le_of_ble_eq_true rfl) (by decide) rfl ?_
        refine At_goto (t := 4) iX8_singOnce_113 (by decide) ?_
        exact hv _ _ _
    · have hv := hv.2 c42
      refine At_aload_n (pc' := 46) iX8_singOnce_45 rfl rfl ?_
      refine At_getI (pc' := 49) iX8_singOnce_46 rfl f_8_15 (kdK eT (X8_k0 hA)) (by decide) ?_
      refine At_if_le (t := 73) (pc' := 52) iX8_singOnce_49 (by decide) rfl (fun c49 => ?_) (fun c49 => ?_)
      · have hv := hv.2 c49
        refine At_iconst (v := nI 0) (pc' := 74) iX8_singOnce_73 rfl (by decide) ?_
        refine At_istore (L' := [.ref a, .ref x1, .int x2, .int x3, .int (gI h (x1 + 1) x3.toNatClampNeg), .int (r_X6_get (gJ h (a + 3) 0) (r_X4_from (gI h (x1 + 1) x3.toNatClampNeg))), .int (nI 0)]) (pc' := 76) iX8_singOnce_74 rfl (Nat.le_of_ble_eq_true rfl) rfl ?_
        refine At_iload (pc' := 78) iX8_singOnce_76 rfl rfl ?_
        refine At_if_ne (t := 110) (pc' := 81) iX8_singOnce_78 (by decide) rfl (fun c78 => absurd c78 (by decide)) (fun c78 => ?_)
        refine At_aload_n (pc' := 82) iX8_singOnce_81 rfl rfl ?_
        refine At_getR (pc' := 85) iX8_singOnce_82 rfl f_8_38 (kdK eT (X8_k0 hA)) (by decide) (rfH eT (X8_r6 hA)) ?_
        refine At_iload (pc' := 87) iX8_singOnce_85 rfl rfl ?_
        refine At_aload_n (pc' := 88) iX8_singOnce_87 rfl rfl ?_
        refine At_getJ (pc' := 91) iX8_singOnce_88 rfl f_8_18 (kdK eT (X8_k0 hA)) (by decide) ?_
        refine At_aload_n (pc' := 92) iX8_singOnce_91 rfl rfl ?_
        refine At_getI (pc' := 95) iX8_singOnce_92 rfl f_8_9 (kdK eT (X8_k0 hA)) (by decide) ?_
        refine At_virt (pc' := 98) iX8_singOnce_95 rfl m_8_104 rfl rfl (kdK eT (X1_k0 (X8_cord hA))) (Nat.le_of_ble_eq_true rfl) (Nat.le_of_ble_eq_true rfl) ?_
        refine At.mono (show CallZ (d + 3) MX1_make [.ref (a + 3), .int (gI h (x1 + 1) x3.toNatClampNeg), .long (gJ h a 2), .int (gI h a 0)] h _ from hv) ?_
        rintro _ h95 ⟨r95, rfl, eT95, hv⟩
        show At (d + 4) MX8_singOnce 98 [.ref a, .ref x1, .int x2, .int x3, .int (gI h (x1 + 1) x3.toNatClampNeg), .int (r_X6_get (gJ h (a + 3) 0) (r_X4_from (gI h (x1 + 1) x3.toNatClampNeg))), .int (nI 0)] [.int (b2i r95)] h95 Q
        refine At_zeq (t := 110) (pc' := 101) iX8_singOnce_98 (by decide) rfl (fun c98 => ?_) (fun c98 => ?_)
        · have hv := hv.2 c98
          refine At_iinc (v := nI 1) (L' := [.ref a, .ref x1, .int x2, .int (x3 + nI 1), .int (gI h (x1 + 1) x3.toNatClampNeg), .int (r_X6_get (gJ h (a + 3) 0) (r_X4_from (gI h (x1 + 1) x3.toNatClampNeg))), .int (nI 0)]) (pc' := 113) iX8_singOnce_110 rfl rfl (Nat.le_of_ble_eq_true rfl) (by decide) rfl ?_
          refine At_goto (t := 4) iX8_singOnce_113 (by decide) ?_
          exact hv _ _ _
        · have hv := hv.1 c98
          refine At_aload_n (pc' := 102) iX8_singOnce_101 rfl rfl ?_
          refine At_iload (pc' := 104) iX8_singOnce_102 rfl rfl ?_
          refine At_virt (pc' := 107) iX8_singOnce_104 rfl m_8_108 rfl rfl (kdK eT95 (X8_k0 hA)) (Nat.le_of_ble_eq_true rfl) (Nat.le_of_ble_eq_true rfl) ?_
          obtain ⟨hn3, hv⟩ := hv
          refine c_X8_addRow (h := h95) hL eT95 a (r_X6_get (gJ h (a + 3) 0) (r_X4_from (gI h (x1 + 1) x3.toNatClampNeg))) hA hn3 (show At (d + 4) MX8_singOnce 107 [.ref a, .ref x1, .int x2, .int x3, .int (gI h (x1 + 1) x3.toNatClampNeg), .int (r_X6_get (gJ h (a + 3) 0) (r_X4_from (gI h (x1 + 1) x3.toNatClampNeg))), .int (nI 0)] [] (w_X8_addRow a (r_X6_get (gJ h (a + 3) 0) (r_X4_from (gI h (x1 + 1) x3.toNatClampNeg))) h95) Q from ?_)
          refine At_iinc (v := nI 1) (L' := [.ref a, .ref x1, .int (x2 + nI 1), .int x3, .int (gI h (x1 + 1) x3.toNatClampNeg), .int (r_X6_get (gJ h (a + 3) 0) (r_X4_from (gI h (x1 + 1) x3.toNatClampNeg))), .int (nI 0)]) (pc' := 110) iX8_singOnce_107 rfl rfl (Nat.le_of_ble_eq_true rfl) (by decide) rfl ?_
          refine At_iinc (v := nI 1) (L' := [.ref a, .ref x1, .int (x2 + nI 1), .int (x3 + nI 1), .int (gI h (x1 + 1) x3.toNatClampNeg), .int (r_X6_get (gJ h (a + 3) 0) (r_X4_from (gI h (x1 + 1) x3.toNatClampNeg))), .int (nI 0)]) (pc' := 113) iX8_singOnce_110 rfl rfl (Nat.le_of_ble_eq_true rfl) (by decide) rfl ?_
          refine At_goto (t := 4) iX8_singOnce_113 (by decide) ?_
          exact hv _ _ _
      · have hv := hv.1 c49
        refine At_aload_n (pc' := 53) iX8_singOnce_52 rfl rfl ?_
        refine At_getR (pc' := 56) iX8_singOnce_53 rfl f_8_38 (kdK eT (X8_k0 hA)) (by decide) (rfH eT (X8_r6 hA)) ?_
        refine At_sipush (v := nI 1000) (pc' := 59) iX8_singOnce_56 rfl (by decide) ?_
        refine At_virt (pc' := 62) iX8_singOnce_59 rfl m_8_101 rfl rfl (kdK eT (X1_k0 (X8_cord hA))) (Nat.le_of_ble_eq_true rfl) (Nat.le_of_ble_eq_true rfl) ?_
        obtain ⟨hn4, hv⟩ := hv
        refine c_X1_draw (h := h) hL eT (a + 3) (nI 1000) (X8_cord hA) hn4 (show At (d + 4) MX8_singOnce 62 [.ref a, .ref x1, .int x2, .int x3, .int (gI h (x1 + 1) x3.toNatClampNeg), .int (r_X6_get (gJ h (a + 3) 0) (r_X4_from (gI h (x1 + 1) x3.toNatClampNeg))), v6] [.int (r_X1_draw (a + 3) (nI 1000) h)] (w_X1_draw (a + 3) (nI 1000) h) Q from ?_)
        refine At_aload_n (pc' := 63) iX8_singOnce_62 rfl rfl ?_
        refine At_getI (pc' := 66) iX8_singOnce_63 rfl f_8_15 (kdK ((wT_X1_draw (a + 3) (nI 1000) h).trans eT) (X8_k0 hA)) (by decide) ?_
        refine At_icmp_ge (t := 73) (pc' := 69) iX8_singOnce_66 (by decide) rfl (fun c66 => ?_) (fun c66 => ?_)
        · have hv := hv.2 c66
          refine At_iconst (v := nI 0) (pc' := 74) iX8_singOnce_73 rfl (by decide) ?_
          refine At_istore (L' := [.ref a, .ref x1, .int x2, .int x3, .int (gI h (x1 + 1) x3.toNatClampNeg), .int (r_X6_get (gJ h (a + 3) 0) (r_X4_from (gI h (x1 + 1) x3.toNatClampNeg))), .int (nI 0)]) (pc' := 76) iX8_singOnce_74 rfl (Nat.le_of_ble_eq_true rfl) rfl ?_
          refine At_iload (pc' := 78) iX8_singOnce_76 rfl rfl ?_
          refine At_if_ne (t := 110) (pc' := 81) iX8_singOnce_78 (by decide) rfl (fun c78 => absurd c78 (by decide)) (fun c78 => ?_)
          refine At_aload_n (pc' := 82) iX8_singOnce_81 rfl rfl ?_
          refine At_getR (pc' := 85) iX8_singOnce_82 rfl f_8_38 (kdK ((wT_X1_draw (a + 3) (nI 1000) h).trans eT) (X8_k0 hA)) (by decide) (rfH ((wT_X1_draw (a + 3) (nI 1000) h).trans eT) (X8_r6 hA)) ?_
          refine At_iload (pc' := 87) iX8_singOnce_85 rfl rfl ?_
          refine At_aload_n (pc' := 88) iX8_singOnce_87 rfl rfl ?_
          refine At_getJ (pc' := 91) iX8_singOnce_88 rfl f_8_18 (kdK ((wT_X1_draw (a + 3) (nI 1000) h).trans eT) (X8_k0 hA)) (by decide) ?_
          refine At_aload_n (pc' := 92) iX8_singOnce_91 rfl rfl ?_
          refine At_getI (pc' := 95) iX8_singOnce_92 rfl f_8_9 (kdK ((wT_X1_draw (a + 3) (nI 1000) h).trans eT) (X8_k0 hA)) (by decide) ?_
          refine At_virt (pc' := 98) iX8_singOnce_95 rfl m_8_104 rfl rfl (kdK ((wT_X1_draw (a + 3) (nI 1000) h).trans eT) (X1_k0 (X8_cord hA))) (Nat.le_of_ble_eq_true rfl) (Nat.le_of_ble_eq_true rfl) ?_
          refine At.mono (show CallZ (d + 3) MX1_make [.ref (a + 3), .int (gI h (x1 + 1) x3.toNatClampNeg), .long (gJ (w_X1_draw (a + 3) (nI 1000) h) a 2), .int (gI (w_X1_draw (a + 3) (nI 1000) h) a 0)] (w_X1_draw (a + 3) (nI 1000) h) _ from hv) ?_
          rintro _ h95 ⟨r95, rfl, eT95, hv⟩
          show At (d + 4) MX8_singOnce 98 [.ref a, .ref x1, .int x2, .int x3, .int (gI h (x1 + 1) x3.toNatClampNeg), .int (r_X6_get (gJ h (a + 3) 0) (r_X4_from (gI h (x1 + 1) x3.toNatClampNeg))), .int (nI 0)] [.int (b2i r95)] h95 Q
          refine At_zeq (t := 110) (pc' := 101) iX8_singOnce_98 (by decide) rfl (fun c98 => ?_) (fun c98 => ?_)
          · have hv := hv.2 c98
            refine At_iinc (v := nI 1) (L' := [.ref a, .ref x1, .int x2, .int (x3 + nI 1), .int (gI h (x1 + 1) x3.toNatClampNeg), .int (r_X6_get (gJ h (a + 3) 0) (r_X4_from (gI h (x1 + 1) x3.toNatClampNeg))), .int (nI 0)]) (pc' := 113) iX8_singOnce_110 rfl rfl (Nat.le_of_ble_eq_true rfl) (by decide) rfl ?_
            refine At_goto (t := 4) iX8_singOnce_113 (by decide) ?_
            exact hv _ _ _
          · have hv := hv.1 c98
            refine At_aload_n (pc' := 102) iX8_singOnce_101 rfl rfl ?_
            refine At_iload (pc' := 104) iX8_singOnce_102 rfl rfl ?_
            refine At_virt (pc' := 107) iX8_singOnce_104 rfl m_8_108 rfl rfl (kdK eT95 (X8_k0 hA)) (Nat.le_of_ble_eq_true rfl) (Nat.le_of_ble_eq_true rfl) ?_
            obtain ⟨hn5, hv⟩ := hv
            refine c_X8_addRow (h := h95) hL eT95 a (r_X6_get (gJ h (a + 3) 0) (r_X4_from (gI h (x1 + 1) x3.toNatClampNeg))) hA hn5 (show At (d + 4) MX8_singOnce 107 [.ref a, .ref x1, .int x2, .int x3, .int (gI h (x1 + 1) x3.toNatClampNeg), .int (r_X6_get (gJ h (a + 3) 0) (r_X4_from (gI h (x1 + 1) x3.toNatClampNeg))), .int (nI 0)] [] (w_X8_addRow a (r_X6_get (gJ h (a + 3) 0) (r_X4_from (gI h (x1 + 1) x3.toNatClampNeg))) h95) Q from ?_)
            refine At_iinc (v := nI 1) (L' := [.ref a, .ref x1, .int (x2 + nI 1), .int x3, .int (gI h (x1 + 1) x3.toNatClampNeg), .int (r_X6_get (gJ h (a + 3) 0) (r_X4_from (gI h (x1 + 1) x3.toNatClampNeg))), .int (nI 0)]) (pc' := 110) iX8_singOnce_107 rfl rfl (Nat.le_of_ble_eq_true rfl) (by decide) rfl ?_
            refine At_iinc (v := nI 1) (L' := [.ref a, .ref x1, .int (x2 + nI 1), .int (x3 + nI 1), .int (gI h (x1 + 1) x3.toNatClampNeg), .int (r_X6_get (gJ h (a + 3) 0) (r_X4_from (gI h (x1 + 1) x3.toNatClampNeg))), .int (nI 0)]) (pc' := 113) iX8_singOnce_110 rfl rfl (Nat.le_of_ble_eq_true rfl) (by decide) rfl ?_
            refine At_goto (t := 4) iX8_singOnce_113 (by decide) ?_
            exact hv _ _ _
        · have hv := hv.1 c66
          refine At_iconst (v := nI 1) (pc' := 70) iX8_singOnce_69 rfl (by decide) ?_
          refine At_goto (t := 74) iX8_singOnce_70 (by decide) ?_
          refine At_istore (L' := [.ref a, .ref x1, .int x2, .int x3, .int (gI h (x1 + 1) x3.toNatClampNeg), .int (r_X6_get (gJ h (a + 3) 0) (r_X4_from (gI h (x1 + 1) x3.toNatClampNeg))), .int (nI 1)]) (pc' := 76) iX8_singOnce_74 rfl (Nat.le_of_ble_eq_true rfl) rfl ?_
          refine At_iload (pc' := 78) iX8_singOnce_76 rfl rfl ?_
          refine At_if_ne (t := 110) (pc' := 81) iX8_singOnce_78 (by decide) rfl (fun c78 => ?_) (fun c78 => absurd c78 (by decide))
          refine At_iinc (v := nI 1) (L' := [.ref a, .ref x1, .int x2, .int (x3 + nI 1), .int (gI h (x1 + 1) x3.toNatClampNeg), .int (r_X6_get (gJ h (a + 3) 0) (r_X4_from (gI h (x1 + 1) x3.toNatClampNeg))), .int (nI 1)]) (pc' := 113) iX8_singOnce_110 rfl rfl (Nat.le_of_ble_eq_true rfl) (by decide) rfl ?_
          refine At_goto (t := 4) iX8_singOnce_113 (by decide) ?_
          exact hv _ _ _
-- X8_strandsToDye (calls X8_layRows)
def L_X8_strandsToDye_17 (d : Nat) (a : Nat) (x1 : Nat) (x2 : Int32) (x3 : Int64) (x5 : Int32) (x6 : Int32) (h : Hp) (Q : Option Value → Hp → Prop) : Prop := ∀ v1 v7 v8 v9 : Value, At (d + 4) MX8_strandsToDye 17 [.ref a, v1, .int x2, .long x3, un, .int x5, .int x6, v7, v8, v9] [] h Q
set_option maxRecDepth 20000 in
theorem b_X8_strandsToDye {d : Nat} {T : HT} (hL : Lay T) {h : Hp} (eT : h.2.2 = T) (a : Nat) (x1 : Nat) (hA : IsX8 T a) (hA1 : IsX7 T x1) {Q : Option Value → Hp → Prop} (hv : CallI (d + 3) MX8_layRows [.ref a, .ref x1] h (fun r2 h2 => h2.2.2 = T ∧ (L_X8_strandsToDye_17 d a x1 r2 (gJ h2 a 2) (nI 0) (nI 0) h2 Q))) : Call (d + 4) MX8_strandsToDye [.ref a, .ref x1] h Q := by
  show At (d + 4) MX8_strandsToDye 0 [.ref a, .ref x1, un, un, un, un, un, un, un, un] [] h Q
  refine At_aload_n (pc' := 1) iX8_strandsToDye_0 rfl rfl ?_
  refine At_aload_n (pc' := 2) iX8_strandsToDye_1 rfl rfl ?_
  refine At_virt (pc' := 5) iX8_strandsToDye_2 rfl m_8_118 rfl rfl (kdK eT (X8_k0 hA)) (Nat.le_of_ble_eq_true rfl) (Nat.le_of_ble_eq_true rfl) ?_
  refine At.mono (show CallI (d + 3) MX8_layRows [.ref a, .ref x1] h _ from hv) ?_
  rintro _ h2 ⟨r2, rfl, eT2, hv⟩
  show At (d + 4) MX8_strandsToDye 5 [.ref a, .ref x1, un, un, un, un, un, un, un, un] [.int r2] h2 Q
  refine At_istore_n (L' := [.ref a, .ref x1, .int r2, un, un, un, un, un, un, un]) (pc' := 6) iX8_strandsToDye_5 rfl (Nat.le_of_ble_eq_true rfl) rfl ?_
  refine At_aload_n (pc' := 7) iX8_strandsToDye_6 rfl rfl ?_
  refine At_getJ (pc' := 10) iX8_strandsToDye_7 rfl f_8_18 (kdK eT2 (X8_k0 hA)) (by decide) ?_
  refine At_lstore_n (L' := [.ref a, .ref x1, .int r2, .long (gJ h2 a 2), un, un, un, un, un, un]) (pc' := 11) iX8_strandsToDye_10 rfl (Nat.le_of_ble_eq_true rfl) rfl ?_
  refine At_iconst (v := nI 0) (pc' := 12) iX8_strandsToDye_11 rfl (by decide) ?_
  refine At_istore (L' := [.ref a, .ref x1, .int r2, .long (gJ h2 a 2), un, .int (nI 0), un, un, un, un]) (pc' := 14) iX8_strandsToDye_12 rfl (Nat.le_of_ble_eq_true rfl) rfl ?_
  refine At_iconst (v := nI 0) (pc' := 15) iX8_strandsToDye_14 rfl (by decide) ?_
  refine At_istore (L' := [.ref a, .ref x1, .int r2, .long (gJ h2 a 2), un, .int (nI 0), .int (nI 0), un, un, un]) (pc' := 17) iX8_strandsToDye_15 rfl (Nat.le_of_ble_eq_true rfl) rfl ?_
  exact hv _ _ _ _
set_option maxRecDepth 20000 in
theorem b_X8_strandsToDye_17 {d : Nat} {T : HT} (hL : Lay T) {h : Hp} (eT : h.2.2 = T) (a : Nat) (x1 : Nat) (x2 : Int32) (x3 : Int64) (x5 : Int32) (x6 : Int32) (hA : IsX8 T a) (hA1 : IsX7 T x1) {Q : Option Value → Hp → Prop} (hv : ((x6 < (nI 30)) → ((inB x6 30 = true) ∧ ((((gI h (a + 1) x6.toNatClampNeg) = (-1)) → (L_X8_strandsToDye_17 d a x1 x2 x3 x5 (x6 + nI 1) h Q)) ∧ (¬ ((gI h (a + 1) x6.toNatClampNeg) = (-1)) → (((x6 < x2) → ((inB x6 30 = true) ∧ ((((x5 &&& ((nI 1) <<< ((gI h (a + 7) x6.toNatClampNeg) &&& 31))) = 0) → (L_X8_strandsToDye_17 d a x1 x2 (r_X6_with x3 (gI h (a + 7) x6.toNatClampNeg) (gI h (a + 1) x6.toNatClampNeg)) (x5 ||| ((nI 1) <<< ((gI h (a + 7) x6.toNatClampNeg) &&& 31))) (x6 + nI 1) h Q)) ∧ (¬ ((x5 &&& ((nI 1) <<< ((gI h (a + 7) x6.toNatClampNeg) &&& 31))) = 0) → ((((r_X6_get x3 (gI h (a + 7) x6.toNatClampNeg)) = (gI h (a + 1) x6.toNatClampNeg)) → (L_X8_strandsToDye_17 d a x1 x2 (r_X6_with x3 (gI h (a + 7) x6.toNatClampNeg) (gI h (a + 1) x6.toNatClampNeg)) (x5 ||| ((nI 1) <<< ((gI h (a + 7) x6.toNatClampNeg) &&& 31))) (x6 + nI 1) h Q)) ∧ (¬ ((r_X6_get x3 (gI h (a + 7) x6.toNatClampNeg)) = (gI h (a + 1) x6.toNatClampNeg)) → (Q (some (.int (-1))) h))))))) ∧ (¬ (x6 < x2) → (Q (some (.int (-1))) h))))))) ∧ (¬ (x6 < (nI 30)) → (CallI (d + 3) MX8_countUnlike [.ref a, .long x3] h (fun r120 h120 => h120.2.2 = T ∧ (Q (some (.int r120)) h120))))) : L_X8_strandsToDye_17 d a x1 x2 x3 x5 x6 h Q := by
  intro v1 v7 v8 v9
  refine At_iload (pc' := 19) iX8_strandsToDye_17 rfl rfl ?_
  refine At_bipush (v := nI 30) (pc' := 21) iX8_strandsToDye_19 rfl (by decide) ?_
  refine At_icmp_ge (t := 118) (pc' := 24) iX8_strandsToDye_21 (by decide) rfl (fun c21 => ?_) (fun c21 => ?_)
  · have hv := hv.2 c21
    refine At_aload_n (pc' := 119) iX8_strandsToDye_118 rfl rfl ?_
    refine At_lload_n (pc' := 120) iX8_strandsToDye_119 rfl rfl ?_
    refine At_virt (pc' := 123) iX8_strandsToDye_120 rfl m_8_122 rfl rfl (kdK eT (X8_k0 hA)) (Nat.le_of_ble_eq_true rfl) (Nat.le_of_ble_eq_true rfl) ?_
    refine At.mono (show CallI (d + 3) MX8_countUnlike [.ref a, .long x3] h _ from hv) ?_
    rintro _ h120 ⟨r120, rfl, eT120, hv⟩
    show At (d + 4) MX8_strandsToDye 123 [.ref a, v1, .int x2, .long x3, un, .int x5, .int x6, v7, v8, v9] [.int r120] h120 Q
    exact At_retI iX8_strandsToDye_123 rfl hv
  · have hv := hv.1 c21
    refine At_aload_n (pc' := 25) iX8_strandsToDye_24 rfl rfl ?_
    refine At_getR (pc' := 28) iX8_strandsToDye_25 rfl f_8_25 (kdK eT (X8_k0 hA)) (by decide) (rfH eT (X8_r4 hA)) ?_
    refine At_iload (pc' := 30) iX8_strandsToDye_28 rfl rfl ?_
    obtain ⟨hn1, hv⟩ := hv
    refine At_iald (pc' := 31) iX8_strandsToDye_30 rfl (kdH eT (X8_k1 hA)) hn1 (show At (d + 4) MX8_strandsToDye 31 [.ref a, v1, .int x2, .long x3, un, .int x5, .int x6, v7, v8, v9] [.int (gI h (a + 1) x6.toNatClampNeg)] h Q from ?_)
    refine At_istore (L' := [.ref a, v1, .int x2, .long x3, un, .int x5, .int x6, .int (gI h (a + 1) x6.toNatClampNeg), v8, v9]) (pc' := 33) iX8_strandsToDye_31 rfl (Nat.le_of_ble_eq_true rfl) rfl ?_
    refine At_iload (pc' := 35) iX8_strandsToDye_33 rfl rfl ?_
    refine At_iconst (v := (-1)) (pc' := 36) iX8_strandsToDye_35 rfl (by decide) ?_
    refine At_icmp_ne (t := 42) (pc' := 39) iX8_strandsToDye_36 (by decide) rfl (fun c36 => ?_) (fun c36 => ?_)
    · have hv := hv.2 c36
      refine At_iload (pc' := 44) iX8_strandsToDye_42 rfl rfl ?_
      refine At_iload_n (pc' := 45) iX8_strandsToDye_44 rfl rfl ?_
      refine At_icmp_lt (t := 50) (pc' := 48) iX8_strandsToDye_45 (by decide) rfl (fun c45 => ?_) (fun c45 => ?_)
      · have hv := hv.1 c45
        refine At_aload_n (pc' := 51) iX8_strandsToDye_50 rfl rfl ?_
        refine At_getR (pc' := 54) iX8_strandsToDye_51 rfl f_8_45 (kdK eT (X8_k0 hA)) (by decide) (rfH eT (X8_r8 hA)) ?_
        refine At_iload (pc' := 56) iX8_strandsToDye_54 rfl rfl ?_
        obtain ⟨hn2, hv⟩ := hv
        refine At_iald (pc' := 57) iX8_strandsToDye_56 rfl (kdH eT (X8_k7 hA)) hn2 (show At (d + 4) MX8_strandsToDye 57 [.ref a, v1, .int x2, .long x3, un, .int x5, .int x6, .int (gI h (a + 1) x6.toNatClampNeg), v8, v9] [.int (gI h (a + 7) x6.toNatClampNeg)] h Q from ?_)
        refine At_istore (L' := [.ref a, v1, .int x2, .long x3, un, .int x5, .int x6, .int (gI h (a + 1) x6.toNatClampNeg), .int (gI h (a + 7) x6.toNatClampNeg), v9]) (pc' := 59) iX8_strandsToDye_57 rfl (Nat.le_of_ble_eq_true rfl) rfl ?_
        refine At_iload (pc' := 61) iX8_strandsToDye_59 rfl rfl ?_
        refine At_iconst (v := nI 1) (pc' := 62) iX8_strandsToDye_61 rfl (by decide) ?_
        refine At_iload (pc' := 64) iX8_strandsToDye_62 rfl rfl ?_
        refine At_ishl (pc' := 65) iX8_strandsToDye_64 rfl ?_
        refine At_iand (pc' := 66) iX8_strandsToDye_65 rfl ?_
        refine At_if_eq (t := 73) (pc' := 69) iX8_strandsToDye_66 (by decide) rfl (fun c66 => ?_) (fun c66 => ?_)
        · have hv := hv.1 c66
          refine At_iconst (v := nI 0) (pc' := 74) iX8_strandsToDye_73 rfl (by decide) ?_
          refine At_istore (L' := [.ref a, v1, .int x2, .long x3, un, .int x5, .int x6, .int (gI h (a + 1) x6.toNatClampNeg), .int (gI h (a + 7) x6.toNatClampNeg), .int (nI 0)]) (pc' := 76) iX8_strandsToDye_74 rfl (Nat.le_of_ble_eq_true rfl) rfl ?_
          refine At_iload (pc' := 78) iX8_strandsToDye_76 rfl rfl ?_
          refine At_if_eq (t := 94) (pc' := 81) iX8_strandsToDye_78 (by decide) rfl (fun c78 => ?_) (fun c78 => absurd c78 (by decide))
          refine At_lload_n (pc' := 95) iX8_strandsToDye_94 rfl rfl ?_
          refine At_iload (pc' := 97) iX8_strandsToDye_95 rfl rfl ?_
          refine At_iload (pc' := 99) iX8_strandsToDye_97 rfl rfl ?_
          refine At_stat (pc' := 102) iX8_strandsToDye_99 rfl m_8_81 rfl rfl (Nat.le_of_ble_eq_true rfl) (Nat.le_of_ble_eq_true rfl) (Nat.le_of_ble_eq_true rfl) ?_
          refine c_X6_with (h := h) x3 (gI h (a + 7) x6.toNatClampNeg) (gI h (a + 1) x6.toNatClampNeg)   (show At (d + 4) MX8_strandsToDye 102 [.ref a, v1, .int x2, .long x3, un, .int x5, .int x6, .int (gI h (a + 1) x6.toNatClampNeg), .int (gI h (a + 7) x6.toNatClampNeg), .int (nI 0)] [.long (r_X6_with x3 (gI h (a + 7) x6.toNatClampNeg) (gI h (a + 1) x6.toNatClampNeg))] h Q from ?_)
          refine At_lstore_n (L' := [.ref a, v1, .int x2, .long (r_X6_with x3 (gI h (a + 7) x6.toNatClampNeg) (gI h (a + 1) x6.toNatClampNeg)), un, .int x5, .int x6, .int (gI h (a + 1) x6.toNatClampNeg), .int (gI h (a + 7) x6.toNatClampNeg), .int (nI 0)]) (pc' := 103) iX8_strandsToDye_102 rfl (Nat.le_of_ble_eq_true rfl) rfl ?_
          refine At_iload (pc' := 105) iX8_strandsToDye_103 rfl rfl ?_
          refine At_iconst (v := nI 1) (pc' := 106) iX8_strandsToDye_105 rfl (by decide) ?_
          refine At_iload (pc' := 108) iX8_strandsToDye_106 rfl rfl ?_
          refine At_ishl (pc' := 109) iX8_strandsToDye_108 rfl ?_
          refine At_ior (pc' := 110) iX8_strandsToDye_109 rfl ?_
          refine At_istore (L' := [.ref a, v1, .int x2, .long (r_X6_with x3 (gI h (a + 7) x6.toNatClampNeg) (gI h (a + 1) x6.toNatClampNeg)), un, .int (x5 ||| ((nI 1) <<< ((gI h (a + 7) x6.toNatClampNeg) &&& 31))), .int x6, .int (gI h (a + 1) x6.toNatClampNeg), .int (gI h (a + 7) x6.toNatClampNeg), .int (nI 0)]) (pc' := 112) iX8_strandsToDye_110 rfl (Nat.le_of_ble_eq_true rfl) rfl ?_
          refine At_iinc (v := nI 1) (L' := [.ref a, v1, .int x2, .long (r_X6_with x3 (gI h (a + 7) x6.toNatClampNeg) (gI h (a + 1) x6.toNatClampNeg)), un, .int (x5 ||| ((nI 1) <<< ((gI h (a + 7) x6.toNatClampNeg) &&& 31))), .int (x6 + nI 1), .int (gI h (a + 1) x6.toNatClampNeg), .int (gI h (a + 7) x6.toNatClampNeg), .int (nI 0)]) (pc' := 115) iX8_strandsToDye_112 rfl rfl (Nat.le_of_ble_eq_true rfl) (by decide) rfl ?_
          refine At_goto (t := 17) iX8_strandsToDye_115 (by decide) ?_
          exact hv _ _ _ _
        · have hv := hv.2 c66
          refine At_iconst (v := nI 1) (pc' := 70) iX8_strandsToDye_69 rfl (by decide) ?_
          refine At_goto (t := 74) iX8_strandsToDye_70 (by decide) ?_
          refine At_istore (L' := [.ref a, v1, .int x2, .long x3, un, .int x5, .int x6, .int (gI h (a + 1) x6.toNatClampNeg), .int (gI h (a + 7) x6.toNatClampNeg), .int (nI 1)]) (pc' := 76) iX8_strandsToDye_74 rfl (Nat.le_of_ble_eq_true rfl) rfl ?_
          refine At_iload (pc' := 78) iX8_strandsToDye_76 rfl rfl ?_
          refine At_if_eq (t := 94) (pc' := 81) iX8_strandsToDye_78 (by decide) rfl (fun c78 => absurd c78 (by decide)) (fun c78 => ?_)
          refine At_lload_n (pc' := 82) iX8_strandsToDye_81 rfl rfl ?_
          refine At_iload (pc' := 84) iX8_strandsToDye_82 rfl rfl ?_
          refine At_stat (pc' := 87) iX8_strandsToDye_84 rfl m_8_75 rfl rfl (Nat.le_of_ble_eq_true rfl) (Nat.le_of_ble_eq_true rfl) (Nat.le_of_ble_eq_true rfl) ?_
          refine c_X6_get (h := h) x3 (gI h (a + 7) x6.toNatClampNeg)   (show At (d + 4) MX8_strandsToDye 87 [.ref a, v1, .int x2, .long x3, un, .int x5, .int x6, .int (gI h (a + 1) x6.toNatClampNeg), .int (gI h (a + 7) x6.toNatClampNeg), .int (nI 1)] [.int (r_X6_get x3 (gI h (a + 7) x6.toNatClampNeg))] h Q from ?_)
          refine At_iload (pc' := 89) iX8_strandsToDye_87 rfl rfl ?_
          refine At_icmp_eq (t := 94) (pc' := 92) iX8_strandsToDye_89 (by decide) rfl (fun c89 => ?_) (fun c89 => ?_)
          · have hv := hv.1 c89
            refine At_lload_n (pc' := 95) iX8_strandsToDye_94 rfl rfl ?_
            refine At_iload (pc' := 97) iX8_strandsToDye_95 rfl rfl ?_
            refine At_iload (pc' := 99) iX8_strandsToDye_97 rfl rfl ?_
            refine At_stat (pc' := 102) iX8_strandsToDye_99 rfl m_8_81 rfl rfl (Nat.le_of_ble_eq_true rfl) (Nat.le_of_ble_eq_true rfl) (Nat.le_of_ble_eq_true rfl) ?_
            refine c_X6_with (h := h) x3 (gI h (a + 7) x6.toNatClampNeg) (gI h (a + 1) x6.toNatClampNeg)   (show At (d + 4) MX8_strandsToDye 102 [.ref a, v1, .int x2, .long x3, un, .int x5, .int x6, .int (gI h (a + 1) x6.toNatClampNeg), .int (gI h (a + 7) x6.toNatClampNeg), .int (nI 1)] [.long (r_X6_with x3 (gI h (a + 7) x6.toNatClampNeg) (gI h (a + 1) x6.toNatClampNeg))] h Q from ?_)
            refine At_lstore_n (L' := [.ref a, v1, .int x2, .long (r_X6_with x3 (gI h (a + 7) x6.toNatClampNeg) (gI h (a + 1) x6.toNatClampNeg)), un, .int x5, .int x6, .int (gI h (a + 1) x6.toNatClampNeg), .int (gI h (a + 7) x6.toNatClampNeg), .int (nI 1)]) (pc' := 103) iX8_strandsToDye_102 rfl (Nat.le_of_ble_eq_true rfl) rfl ?_
            refine At_iload (pc' := 105) iX8_strandsToDye_103 rfl rfl ?_
            refine At_iconst (v := nI 1) (pc' := 106) iX8_strandsToDye_105 rfl (by decide) ?_
            refine At_iload (pc' := 108) iX8_strandsToDye_106 rfl rfl ?_
            refine At_ishl (pc' := 109) iX8_strandsToDye_108 rfl ?_
            refine At_ior (pc' := 110) iX8_strandsToDye_109 rfl ?_
            refine At_istore (L' := [.ref a, v1, .int x2, .long (r_X6_with x3 (gI h (a + 7) x6.toNatClampNeg) (gI h (a + 1) x6.toNatClampNeg)), un, .int (x5 ||| ((nI 1) <<< ((gI h (a + 7) x6.toNatClampNeg) &&& 31))), .int x6, .int (gI h (a + 1) x6.toNatClampNeg), .int (gI h (a + 7) x6.toNatClampNeg), .int (nI 1)]) (pc' := 112) iX8_strandsToDye_110 rfl (Nat.le_of_ble_eq_true rfl) rfl ?_
            refine At_iinc (v := nI 1) (L' := [.ref a, v1, .int x2, .long (r_X6_with x3 (gI h (a + 7) x6.toNatClampNeg) (gI h (a + 1) x6.toNatClampNeg)), un, .int (x5 ||| ((nI 1) <<< ((gI h (a + 7) x6.toNatClampNeg) &&& 31))), .int (x6 + nI 1), .int (gI h (a + 1) x6.toNatClampNeg), .int (gI h (a + 7) x6.toNatClampNeg), .int (nI 1)]) (pc' := 115) iX8_strandsToDye_112 rfl rfl (Nat.le_of_ble_eq_true rfl) (by decide) rfl ?_
            refine At_goto (t := 17) iX8_strandsToDye_115 (by decide) ?_
            exact hv _ _ _ _
          · have hv := hv.2 c89
            refine At_iconst (v := (-1)) (pc' := 93) iX8_strandsToDye_92 rfl (by decide) ?_
            exact At_retI iX8_strandsToDye_93 rfl hv
      · have hv := hv.2 c45
        refine At_iconst (v := (-1)) (pc' := 49) iX8_strandsToDye_48 rfl (by decide) ?_
        exact At_retI iX8_strandsToDye_49 rfl hv
    · have hv := hv.1 c36
      refine At_goto (t := 112) iX8_strandsToDye_39 (by decide) ?_
      refine At_iinc (v := nI 1) (L' := [.ref a, v1, .int x2, .long x3, un, .int x5, .int (x6 + nI 1), .int (gI h (a + 1) x6.toNatClampNeg), v8, v9]) (pc' := 115) iX8_strandsToDye_112 rfl rfl (Nat.le_of_ble_eq_true rfl) (by decide) rfl ?_
      refine At_goto (t := 17) iX8_strandsToDye_115 (by decide) ?_
      exact hv _ _ _ _
-- X10_beats (ex)
set_option maxRecDepth 20000 in
theorem b_X10_beats {d : Nat} {T : HT} (hL : Lay T) {h : Hp} (eT : h.2.2 = T) (x1 : Int32) (x2 : Int32)  {Q : Option Value → Hp → Prop} (hv : (((r_X10_isSong x1) = true) → (((x2 < (nI 1)) → (Q (some (.int (-1))) h)) ∧ (¬ (x2 < (nI 1)) → ((((nI 9) < x2) → (Q (some (.int (-1))) h)) ∧ (¬ ((nI 9) < x2) → (∃ k32 : Nat, x1 = nI k32 ∧ k32 < 4 ∧ (CallI (d + 3) MX0_needed [.ref 50, .ref (20 + 2 * k32), .int x2] h (fun r34 h34 => h34.2.2 = T ∧ (Q (some (.int r34)) h34))))))))) ∧ (¬ ((r_X10_isSong x1) = true) → (Q (some (.int (-1))) h))) : Call (d + 4) MX10_beats [.ref 1, .int x1, .int x2] h Q := by
  show At (d + 4) MX10_beats 0 [.ref 1, .int x1, .int x2] [] h Q
  refine At_iload_n (pc' := 1) iX10_beats_0 rfl rfl ?_
  refine At_stat (pc' := 4) iX10_beats_1 rfl m_10_106 rfl rfl (Nat.le_of_ble_eq_true rfl) (Nat.le_of_ble_eq_true rfl) (Nat.le_of_ble_eq_true rfl) ?_
  refine c_X10_isSong (h := h) x1   (show At (d + 4) MX10_beats 4 [.ref 1, .int x1, .int x2] [.int (b2i (r_X10_isSong x1))] h Q from ?_)
  refine At_zeq (t := 18) (pc' := 7) iX10_beats_4 (by decide) rfl (fun c4 => ?_) (fun c4 => ?_)
  · have hv := hv.2 c4
    refine At_iconst (v := (-1)) (pc' := 19) iX10_beats_18 rfl (by decide) ?_
    exact At_retI iX10_beats_19 rfl hv
  · have hv := hv.1 c4
    refine At_iload_n (pc' := 8) iX10_beats_7 rfl rfl ?_
    refine At_iconst (v := nI 1) (pc' := 9) iX10_beats_8 rfl (by decide) ?_
    refine At_icmp_lt (t := 18) (pc' := 12) iX10_beats_9 (by decide) rfl (fun c9 => ?_) (fun c9 => ?_)
    · have hv := hv.1 c9
      refine At_iconst (v := (-1)) (pc' := 19) iX10_beats_18 rfl (by decide) ?_
      exact At_retI iX10_beats_19 rfl hv
    · have hv := hv.2 c9
      refine At_iload_n (pc' := 13) iX10_beats_12 rfl rfl ?_
      refine At_bipush (v := nI 9) (pc' := 15) iX10_beats_13 rfl (by decide) ?_
      refine At_icmp_le (t := 20) (pc' := 18) iX10_beats_15 (by decide) rfl (fun c15 => ?_) (fun c15 => ?_)
      · have hv := hv.2 c15
        refine At_aload_n (pc' := 21) iX10_beats_20 rfl rfl ?_
        refine At_getR (pc' := 24) iX10_beats_21 rfl f_10_40 (kdK eT (kd_1 hL)) (by decide) (rfH eT (rf_1_4 hL)) ?_
        refine At_aload_n (pc' := 25) iX10_beats_24 rfl rfl ?_
        refine At_getR (pc' := 28) iX10_beats_25 rfl f_10_19 (kdK eT (kd_1 hL)) (by decide) (rfH eT (rf_1_1 hL)) ?_
        refine At_getR (pc' := 31) iX10_beats_28 rfl f_10_115 (kdK eT (kd_12 hL)) (by decide) (rfH eT (rf_12_5 hL)) ?_
        refine At_iload_n (pc' := 32) iX10_beats_31 rfl rfl ?_
        obtain ⟨k32, e32, hk32, hv⟩ := hv
        refine At_aald (b := (20 + 2 * k32)) (pc' := 33) iX10_beats_32 rfl (kdH eT (kd_14 hL)) (by decide) (by rw [e32]; exact inB_nI hk32 (by decide)) (by rw [e32, nI_clamp (by omega)]; exact rfH eT (rf_song hL hk32)) ?_
        refine At_iload_n (pc' := 34) iX10_beats_33 rfl rfl ?_
        refine At_virt (pc' := 37) iX10_beats_34 rfl m_10_220 rfl rfl (kdK eT (kd_50 hL)) (Nat.le_of_ble_eq_true rfl) (Nat.le_of_ble_eq_true rfl) ?_
        refine At.mono (show CallI (d + 3) MX0_needed [.ref 50, .ref (20 + 2 * k32), .int x2] h _ from hv) ?_
        rintro _ h34 ⟨r34, rfl, eT34, hv⟩
        show At (d + 4) MX10_beats 37 [.ref 1, .int x1, .int x2] [.int r34] h34 Q
        exact At_retI iX10_beats_37 rfl hv
      · have hv := hv.1 c15
        refine At_iconst (v := (-1)) (pc' := 19) iX10_beats_18 rfl (by decide) ?_
        exact At_retI iX10_beats_19 rfl hv
-- X10_cut (loop)
def L_X10_cut_21 (d : Nat) (x1 : Int32) (x2 : Int32) (x3 : Int32) (x4 : Int32) (x5 : Int32) (h : Hp) (Q : Option Value → Hp → Prop) : Prop := ∀ v6 v7 v8 : Value, At (d + 4) MX10_cut 21 [.ref 1, .int x1, .int x2, .int x3, .int x4, .int x5, v6, v7, v8] [] h Q
def L_X10_cut_39 (d : Nat) (x1 : Int32) (x2 : Int32) (x3 : Int32) (x4 : Int32) (x5 : Int32) (x6 : Int64) (x8 : Int32) (h : Hp) (Q : Option Value → Hp → Prop) : Prop := At (d + 4) MX10_cut 39 [.ref 1, .int x1, .int x2, .int x3, .int x4, .int x5, .long x6, un, .int x8] [] h Q
set_option maxRecDepth 20000 in
theorem b_X10_cut {d : Nat} {T : HT} (hL : Lay T) {h : Hp} (eT : h.2.2 = T) (x1 : Int32)  {Q : Option Value → Hp → Prop} (hv : ((x1 < 0) → (Q (some (.int (-1))) h)) ∧ (¬ (x1 < 0) → ((((nI 2) < x1) → (Q (some (.int (-1))) h)) ∧ (¬ ((nI 2) < x1) → (L_X10_cut_21 d x1 (nI 0) (-1) (-1) (nI 0) h Q))))) : Call (d + 4) MX10_cut [.ref 1, .int x1] h Q := by
  show At (d + 4) MX10_cut 0 [.ref 1, .int x1, un, un, un, un, un, un, un] [] h Q
  refine At_iload_n (pc' := 1) iX10_cut_0 rfl rfl ?_
  refine At_if_lt (t := 9) (pc' := 4) iX10_cut_1 (by decide) rfl (fun c1 => ?_) (fun c1 => ?_)
  · have hv := hv.1 c1
    refine At_iconst (v := (-1)) (pc' := 10) iX10_cut_9 rfl (by decide) ?_
    exact At_retI iX10_cut_10 rfl hv
  · have hv := hv.2 c1
    refine At_iload_n (pc' := 5) iX10_cut_4 rfl rfl ?_
    refine At_iconst (v := nI 2) (pc' := 6) iX10_cut_5 rfl (by decide) ?_
    refine At_icmp_le (t := 11) (pc' := 9) iX10_cut_6 (by decide) rfl (fun c6 => ?_) (fun c6 => ?_)
    · have hv := hv.2 c6
      refine At_iconst (v := nI 0) (pc' := 12) iX10_cut_11 rfl (by decide) ?_
      refine At_istore_n (L' := [.ref 1, .int x1, .int (nI 0), un, un, un, un, un, un]) (pc' := 13) iX10_cut_12 rfl (Nat.le_of_ble_eq_true rfl) rfl ?_
      refine At_iconst (v := (-1)) (pc' := 14) iX10_cut_13 rfl (by decide) ?_
      refine At_istore_n (L' := [.ref 1, .int x1, .int (nI 0), .int (-1), un, un, un, un, un]) (pc' := 15) iX10_cut_14 rfl (Nat.le_of_ble_eq_true rfl) rfl ?_
      refine At_iconst (v := (-1)) (pc' := 16) iX10_cut_15 rfl (by decide) ?_
      refine At_istore (L' := [.ref 1, .int x1, .int (nI 0), .int (-1), .int (-1), un, un, un, un]) (pc' := 18) iX10_cut_16 rfl (Nat.le_of_ble_eq_true rfl) rfl ?_
      refine At_iconst (v := nI 0) (pc' := 19) iX10_cut_18 rfl (by decide) ?_
      refine At_istore (L' := [.ref 1, .int x1, .int (nI 0), .int (-1), .int (-1), .int (nI 0), un, un, un]) (pc' := 21) iX10_cut_19 rfl (Nat.le_of_ble_eq_true rfl) rfl ?_
      exact hv _ _ _
    · have hv := hv.1 c6
      refine At_iconst (v := (-1)) (pc' := 10) iX10_cut_9 rfl (by decide) ?_
      exact At_retI iX10_cut_10 rfl hv
set_option maxRecDepth 20000 in
theorem b_X10_cut_21 {d : Nat} {T : HT} (hL : Lay T) {h : Hp} (eT : h.2.2 = T) (x1 : Int32) (x2 : Int32) (x3 : Int32) (x4 : Int32) (x5 : Int32)  {Q : Option Value → Hp → Prop} (hv : ((x5 < (nI 4)) → (L_X10_cut_39 d x1 x2 x3 x4 x5 (gJ h 12 2) (nI 0) h Q)) ∧ (¬ (x5 < (nI 4)) → (Q (some (.int (r_X10_oneOfThree x1 x2 x3 x4))) h))) : L_X10_cut_21 d x1 x2 x3 x4 x5 h Q := by
  intro v6 v7 v8
  refine At_iload (pc' := 23) iX10_cut_21 rfl rfl ?_
  refine At_iconst (v := nI 4) (pc' := 24) iX10_cut_23 rfl (by decide) ?_
  refine At_icmp_ge (t := 126) (pc' := 27) iX10_cut_24 (by decide) rfl (fun c24 => ?_) (fun c24 => ?_)
  · have hv := hv.2 c24
    refine At_iload_n (pc' := 127) iX10_cut_126 rfl rfl ?_
    refine At_iload_n (pc' := 128) iX10_cut_127 rfl rfl ?_
    refine At_iload_n (pc' := 129) iX10_cut_128 rfl rfl ?_
    refine At_iload (pc' := 131) iX10_cut_129 rfl rfl ?_
    refine At_stat (pc' := 134) iX10_cut_131 rfl m_10_208 rfl rfl (Nat.le_of_ble_eq_true rfl) (Nat.le_of_ble_eq_true rfl) (Nat.le_of_ble_eq_true rfl) ?_
    refine c_X10_oneOfThree (h := h) x1 x2 x3 x4   (show At (d + 4) MX10_cut 134 [.ref 1, .int x1, .int x2, .int x3, .int x4, .int x5, v6, v7, v8] [.int (r_X10_oneOfThree x1 x2 x3 x4)] h Q from ?_)
    exact At_retI iX10_cut_134 rfl hv
  · have hv := hv.1 c24
    refine At_aload_n (pc' := 28) iX10_cut_27 rfl rfl ?_
    refine At_getR (pc' := 31) iX10_cut_28 rfl f_10_19 (kdK eT (kd_1 hL)) (by decide) (rfH eT (rf_1_1 hL)) ?_
    refine At_getJ (pc' := 34) iX10_cut_31 rfl f_10_78 (kdK eT (kd_12 hL)) (by decide) ?_
    refine At_lstore (L' := [.ref 1, .int x1, .int x2, .int x3, .int x4, .int x5, .long (gJ h 12 2), un, v8]) (pc' := 36) iX10_cut_34 rfl (Nat.le_of_ble_eq_true rfl) rfl ?_
    refine At_iconst (v := nI 0) (pc' := 37) iX10_cut_36 rfl (by decide) ?_
    refine At_istore (L' := [.ref 1, .int x1, .int x2, .int x3, .int x4, .int x5, .long (gJ h 12 2), un, .int (nI 0)]) (pc' := 39) iX10_cut_37 rfl (Nat.le_of_ble_eq_true rfl) rfl ?_
    exact hv
set_option maxRecDepth 20000 in
theorem b_X10_cut_39 {d : Nat} {T : HT} (hL : Lay T) {h : Hp} (eT : h.2.2 = T) (x1 : Int32) (x2 : Int32) (x3 : Int32) (x4 : Int32) (x5 : Int32) (x6 : Int64) (x8 : Int32)  {Q : Option Value → Hp → Prop} (hv : (((nI 30) < x8) → (L_X10_cut_21 d x1 x2 x3 x4 (x5 + nI 1) h Q)) ∧ (¬ ((nI 30) < x8) → ((((lg_cmp x6 (gJ h 12 3)) = 0) → (((x2 = 0) → (((x2 = 0) → (∃ k95 : Nat, x5 = nI k95 ∧ k95 < 4 ∧ (CallJ (d + 3) MX7_sungFrom [.ref (20 + 2 * k95), .long x6, .long (-81985529216486896 : Int64), .int (gI h 12 0), .int (-1)] h (fun r109 h109 => h109.2.2 = T ∧ (L_X10_cut_39 d x1 (x2 + nI 1) x5 x8 x5 r109 (x8 + nI 1) h109 Q))))) ∧ (¬ (x2 = 0) → (∃ k95 : Nat, x5 = nI k95 ∧ k95 < 4 ∧ (CallJ (d + 3) MX7_sungFrom [.ref (20 + 2 * k95), .long x6, .long (-81985529216486896 : Int64), .int (gI h 12 0), .int (-1)] h (fun r109 h109 => h109.2.2 = T ∧ (L_X10_cut_39 d x1 (x2 + nI 1) x5 x4 x5 r109 (x8 + nI 1) h109 Q))))))) ∧ (¬ (x2 = 0) → (((x2 = 0) → (∃ k95 : Nat, x5 = nI k95 ∧ k95 < 4 ∧ (CallJ (d + 3) MX7_sungFrom [.ref (20 + 2 * k95), .long x6, .long (-81985529216486896 : Int64), .int (gI h 12 0), .int (-1)] h (fun r109 h109 => h109.2.2 = T ∧ (L_X10_cut_39 d x1 (x2 + nI 1) x3 x8 x5 r109 (x8 + nI 1) h109 Q))))) ∧ (¬ (x2 = 0) → (∃ k95 : Nat, x5 = nI k95 ∧ k95 < 4 ∧ (CallJ (d + 3) MX7_sungFrom [.ref (20 + 2 * k95), .long x6, .long (-81985529216486896 : Int64), .int (gI h 12 0), .int (-1)] h (fun r109 h109 => h109.2.2 = T ∧ (L_X10_cut_39 d x1 (x2 + nI 1) x3 x4 x5 r109 (x8 + nI 1) h109 Q))))))))) ∧ (¬ ((lg_cmp x6 (gJ h 12 3)) = 0) → (∃ k95 : Nat, x5 = nI k95 ∧ k95 < 4 ∧ (CallJ (d + 3) MX7_sungFrom [.ref (20 + 2 * k95), .long x6, .long (-81985529216486896 : Int64), .int (gI h 12 0), .int (-1)] h (fun r109 h109 => h109.2.2 = T ∧ (L_X10_cut_39 d x1 x2 x3 x4 x5 r109 (x8 + nI 1) h109 Q)))))))) : L_X10_cut_39 d x1 x2 x3 x4 x5 x6 x8 h Q := by
  refine At_iload (pc' := 41) iX10_cut_39 rfl rfl ?_
  refine At_bipush (v := nI 30) (pc' := 43) iX10_cut_41 rfl (by decide) ?_
  refine At_icmp_gt (t := 120) (pc' := 46) iX10_cut_43 (by decide) rfl (fun c43 => ?_) (fun c43 => ?_)
  · have hv := hv.1 c43
    refine At_iinc (v := nI 1) (L' := [.ref 1, .int x1, .int x2, .int x3, .int x4, .int (x5 + nI 1), .long x6, un, .int x8]) (pc' := 123) iX10_cut_120 rfl rfl (Nat.le_of_ble_eq_true rfl) (by decide) rfl ?_
    refine At_goto (t := 21) iX10_cut_123 (by decide) ?_
    exact hv _ _ _
  · have hv := hv.2 c43
    refine At_lload (pc' := 48) iX10_cut_46 rfl rfl ?_
    refine At_aload_n (pc' := 49) iX10_cut_48 rfl rfl ?_
    refine At_getR (pc' := 52) iX10_cut_49 rfl f_10_19 (kdK eT (kd_1 hL)) (by decide) (rfH eT (rf_1_1 hL)) ?_
    refine At_getJ (pc' := 55) iX10_cut_52 rfl f_10_189 (kdK eT (kd_12 hL)) (by decide) ?_
    refine At_lcmp (pc' := 56) iX10_cut_55 rfl ?_
    refine At_if_ne (t := 86) (pc' := 59) iX10_cut_56 (by decide) rfl (fun c56 => ?_) (fun c56 => ?_)
    · have hv := hv.2 c56
      refine At_aload_n (pc' := 87) iX10_cut_86 rfl rfl ?_
      refine At_getR (pc' := 90) iX10_cut_87 rfl f_10_19 (kdK eT (kd_1 hL)) (by decide) (rfH eT (rf_1_1 hL)) ?_
      refine At_getR (pc' := 93) iX10_cut_90 rfl f_10_115 (kdK eT (kd_12 hL)) (by decide) (rfH eT (rf_12_5 hL)) ?_
      refine At_iload (pc' := 95) iX10_cut_93 rfl rfl ?_
      obtain ⟨k95, e95, hk95, hv⟩ := hv
      refine At_aald (b := (20 + 2 * k95)) (pc' := 96) iX10_cut_95 rfl (kdH eT (kd_14 hL)) (by decide) (by rw [e95]; exact inB_nI hk95 (by decide)) (by rw [e95, nI_clamp (by omega)]; exact rfH eT (rf_song hL hk95)) ?_
      refine At_lload (pc' := 98) iX10_cut_96 rfl rfl ?_
      refine At_ldc2 (v := (-81985529216486896 : Int64)) (pc' := 101) iX10_cut_98 rfl rfl ?_
      refine At_aload_n (pc' := 102) iX10_cut_101 rfl rfl ?_
      refine At_getR (pc' := 105) iX10_cut_102 rfl f_10_19 (kdK eT (kd_1 hL)) (by decide) (rfH eT (rf_1_1 hL)) ?_
      refine At_getI (pc' := 108) iX10_cut_105 rfl f_10_109 (kdK eT (kd_12 hL)) (by decide) ?_
      refine At_iconst (v := (-1)) (pc' := 109) iX10_cut_108 rfl (by decide) ?_
      refine At_virt (pc' := 112) iX10_cut_109 rfl m_10_185 rfl rfl (kdK eT (X7_k0 (isX7_song hL hk95))) (Nat.le_of_ble_eq_true rfl) (Nat.le_of_ble_eq_true rfl) ?_
      refine At.mono (show CallJ (d + 3) MX7_sungFrom [.ref (20 + 2 * k95), .long x6, .long (-81985529216486896 : Int64), .int (gI h 12 0), .int (-1)] h _ from hv) ?_
      rintro _ h109 ⟨r109, rfl, eT109, hv⟩
      show At (d + 4) MX10_cut 112 [.ref 1, .int x1, .int x2, .int x3, .int x4, .int x5, .long x6, un, .int x8] [.long r109] h109 Q
      refine At_lstore (L' := [.ref 1, .int x1, .int x2, .int x3, .int x4, .int x5, .long r109, un, .int x8]) (pc' := 114) iX10_cut_112 rfl (Nat.le_of_ble_eq_true rfl) rfl ?_
      refine At_iinc (v := nI 1) (L' := [.ref 1, .int x1, .int x2, .int x3, .int x4, .int x5, .long r109, un, .int (x8 + nI 1)]) (pc' := 117) iX10_cut_114 rfl rfl (Nat.le_of_ble_eq_true rfl) (by decide) rfl ?_
      refine At_goto (t := 39) iX10_cut_117 (by decide) ?_
      exact hv
    · have hv := hv.1 c56
      refine At_iload_n (pc' := 60) iX10_cut_59 rfl rfl ?_
      refine At_if_ne (t := 68) (pc' := 63) iX10_cut_60 (by decide) rfl (fun c60 => ?_) (fun c60 => ?_)
      · have hv := hv.2 c60
        refine At_iload_n (pc' := 69) iX10_cut_68 rfl rfl ?_
        refine At_istore_n (L' := [.ref 1, .int x1, .int x2, .int x3, .int x4, .int x5, .long x6, un, .int x8]) (pc' := 70) iX10_cut_69 rfl (Nat.le_of_ble_eq_true rfl) rfl ?_
        refine At_iload_n (pc' := 71) iX10_cut_70 rfl rfl ?_
        refine At_if_ne (t := 79) (pc' := 74) iX10_cut_71 (by decide) rfl (fun c71 => ?_) (fun c71 => ?_)
        · have hv := hv.2 c71
          refine At_iload (pc' := 81) iX10_cut_79 rfl rfl ?_
          refine At_istore (L' := [.ref 1, .int x1, .int x2, .int x3, .int x4, .int x5, .long x6, un, .int x8]) (pc' := 83) iX10_cut_81 rfl (Nat.le_of_ble_eq_true rfl) rfl ?_
          refine At_iinc (v := nI 1) (L' := [.ref 1, .int x1, .int (x2 + nI 1), .int x3, .int x4, .int x5, .long x6, un, .int x8]) (pc' := 86) iX10_cut_83 rfl rfl (Nat.le_of_ble_eq_true rfl) (by decide) rfl ?_
          refine At_aload_n (pc' := 87) iX10_cut_86 rfl rfl ?_
          refine At_getR (pc' := 90) iX10_cut_87 rfl f_10_19 (kdK eT (kd_1 hL)) (by decide) (rfH eT (rf_1_1 hL)) ?_
          refine At_getR (pc' := 93) iX10_cut_90 rfl f_10_115 (kdK eT (kd_12 hL)) (by decide) (rfH eT (rf_12_5 hL)) ?_
          refine At_iload (pc' := 95) iX10_cut_93 rfl rfl ?_
          obtain ⟨k95, e95, hk95, hv⟩ := hv
          refine At_aald (b := (20 + 2 * k95)) (pc' := 96) iX10_cut_95 rfl (kdH eT (kd_14 hL)) (by decide) (by rw [e95]; exact inB_nI hk95 (by decide)) (by rw [e95, nI_clamp (by omega)]; exact rfH eT (rf_song hL hk95)) ?_
          refine At_lload (pc' := 98) iX10_cut_96 rfl rfl ?_
          refine At_ldc2 (v := (-81985529216486896 : Int64)) (pc' := 101) iX10_cut_98 rfl rfl ?_
          refine At_aload_n (pc' := 102) iX10_cut_101 rfl rfl ?_
          refine At_getR (pc' := 105) iX10_cut_102 rfl f_10_19 (kdK eT (kd_1 hL)) (by decide) (rfH eT (rf_1_1 hL)) ?_
          refine At_getI (pc' := 108) iX10_cut_105 rfl f_10_109 (kdK eT (kd_12 hL)) (by decide) ?_
          refine At_iconst (v := (-1)) (pc' := 109) iX10_cut_108 rfl (by decide) ?_
          refine At_virt (pc' := 112) iX10_cut_109 rfl m_10_185 rfl rfl (kdK eT (X7_k0 (isX7_song hL hk95))) (Nat.le_of_ble_eq_true rfl) (Nat.le_of_ble_eq_true rfl) ?_
          refine At.mono (show CallJ (d + 3) MX7_sungFrom [.ref (20 + 2 * k95), .long x6, .long (-81985529216486896 : Int64), .int (gI h 12 0), .int (-1)] h _ from hv) ?_
          rintro _ h109 ⟨r109, rfl, eT109, hv⟩
          show At (d + 4) MX10_cut 112 [.ref 1, .int x1, .int (x2 + nI 1), .int x3, .int x4, .int x5, .long x6, un, .int x8] [.long r109] h109 Q
          refine At_lstore (L' := [.ref 1, .int x1, .int (x2 + nI 1), .int x3, .int x4, .int x5, .long r109, un, .int x8]) (pc' := 114) iX10_cut_112 rfl (Nat.le_of_ble_eq_true rfl) rfl ?_
          refine At_iinc (v := nI 1) (L' := [.ref 1, .int x1, .int (x2 + nI 1), .int x3, .int x4, .int x5, .long r109, un, .int (x8 + nI 1)]) (pc' := 117) iX10_cut_114 rfl rfl (Nat.le_of_ble_eq_true rfl) (by decide) rfl ?_
          refine At_goto (t := 39) iX10_cut_117 (by decide) ?_
          exact hv
        · have hv := hv.1 c71
          refine At_iload (pc' := 76) iX10_cut_74 rfl rfl ?_
          refine At_goto (t := 81) iX10_cut_76 (by decide) ?_
          refine At_istore (L' := [.ref 1, .int x1, .int x2, .int x3, .int x8, .int x5, .long x6, un, .int x8]) (pc' := 83) iX10_cut_81 rfl (Nat.le_of_ble_eq_true rfl) rfl ?_
          refine At_iinc (v := nI 1) (L' := [.ref 1, .int x1, .int (x2 + nI 1), .int x3, .int x8, .int x5, .long x6, un, .int x8]) (pc' := 86) iX10_cut_83 rfl rfl (Nat.le_of_ble_eq_true rfl) (by decide) rfl ?_
          refine At_aload_n (pc' := 87) iX10_cut_86 rfl rfl ?_
          refine At_getR (pc' := 90) iX10_cut_87 rfl f_10_19 (kdK eT (kd_1 hL)) (by decide) (rfH eT (rf_1_1 hL)) ?_
          refine At_getR (pc' := 93) iX10_cut_90 rfl f_10_115 (kdK eT (kd_12 hL)) (by decide) (rfH eT (rf_12_5 hL)) ?_
          refine At_iload (pc' := 95) iX10_cut_93 rfl rfl ?_
          obtain ⟨k95, e95, hk95, hv⟩ := hv
          refine At_aald (b := (20 + 2 * k95)) (pc' := 96) iX10_cut_95 rfl (kdH eT (kd_14 hL)) (by decide) (by rw [e95]; exact inB_nI hk95 (by decide)) (by rw [e95, nI_clamp (by omega)]; exact rfH eT (rf_song hL hk95)) ?_
          refine At_lload (pc' := 98) iX10_cut_96 rfl rfl ?_
          refine At_ldc2 (v := (-81985529216486896 : Int64)) (pc' := 101) iX10_cut_98 rfl rfl ?_
          refine At_aload_n (pc' := 102) iX10_cut_101 rfl rfl ?_
          refine At_getR (pc' := 105) iX10_cut_102 rfl f_10_19 (kdK eT (kd_1 hL)) (by decide) (rfH eT (rf_1_1 hL)) ?_
          refine At_getI (pc' := 108) iX10_cut_105 rfl f_10_109 (kdK eT (kd_12 hL)) (by decide) ?_
          refine At_iconst (v := (-1)) (pc' := 109) iX10_cut_108 rfl (by decide) ?_
          refine At_virt (pc' := 112) iX10_cut_109 rfl m_10_185 rfl rfl (kdK eT (X7_k0 (isX7_song hL hk95))) (Nat.le_of_ble_eq_true rfl) (Nat.le_of_ble_eq_true rfl) ?_
          refine At.mono (show CallJ (d + 3) MX7_sungFrom [.ref (20 + 2 * k95), .long x6, .long (-81985529216486896 : Int64), .int (gI h 12 0), .int (-1)] h _ from hv) ?_
          rintro _ h109 ⟨r109, rfl, eT109, hv⟩
          show At (d + 4) MX10_cut 112 [.ref 1, .int x1, .int (x2 + nI 1), .int x3, .int x8, .int x5, .long x6, un, .int x8] [.long r109] h109 Q
          refine At_lstore (L' := [.ref 1, .int x1, .int (x2 + nI 1), .int x3, .int x8, .int x5, .long r109, un, .int x8]) (pc' := 114) iX10_cut_112 rfl (Nat.le_of_ble_eq_true rfl) rfl ?_
          refine At_iinc (v := nI 1) (L' := [.ref 1, .int x1, .int (x2 + nI 1), .int x3, .int x8, .int x5, .long r109, un, .int (x8 + nI 1)]) (pc' := 117) iX10_cut_114 rfl rfl (Nat.le_of_ble_eq_true rfl) (by decide) rfl ?_
          refine At_goto (t := 39) iX10_cut_117 (by decide) ?_
          exact hv
      · have hv := hv.1 c60
        refine At_iload (pc' := 65) iX10_cut_63 rfl rfl ?_
        refine At_goto (t := 69) iX10_cut_65 (by decide) ?_
        refine At_istore_n (L' := [.ref 1, .int x1, .int x2, .int x5, .int x4, .int x5, .long x6, un, .int x8]) (pc' := 70) iX10_cut_69 rfl (Nat.le_of_ble_eq_true rfl) rfl ?_
        refine At_iload_n (pc' := 71) iX10_cut_70 rfl rfl ?_
        refine At_if_ne (t := 79) (pc' := 74) iX10_cut_71 (by decide) rfl (fun c71 => ?_) (fun c71 => ?_)
        · have hv := hv.2 c71
          refine At_iload (pc' := 81) iX10_cut_79 rfl rfl ?_
          refine At_istore (L' := [.ref 1, .int x1, .int x2, .int x5, .int x4, .int x5, .long x6, un, .int x8]) (pc' := 83) iX10_cut_81 rfl (Nat.le_of_ble_eq_true rfl) rfl ?_
          refine At_iinc (v := nI 1) (L' := [.ref 1, .int x1, .int (x2 + nI 1), .int x5, .int x4, .int x5, .long x6, un, .int x8]) (pc' := 86) iX10_cut_83 rfl rfl (Nat.le_of_ble_eq_true rfl) (by decide) rfl ?_
          refine At_aload_n (pc' := 87) iX10_cut_86 rfl rfl ?_
          refine At_getR (pc' := 90) iX10_cut_87 rfl f_10_19 (kdK eT (kd_1 hL)) (by decide) (rfH eT (rf_1_1 hL)) ?_
          refine At_getR (pc' := 93) iX10_cut_90 rfl f_10_115 (kdK eT (kd_12 hL)) (by decide) (rfH eT (rf_12_5 hL)) ?_
          refine At_iload (pc' := 95) iX10_cut_93 rfl rfl ?_
          obtain ⟨k95, e95, hk95, hv⟩ := hv
          refine At_aald (b := (20 + 2 * k95)) (pc' := 96) iX10_cut_95 rfl (kdH eT (kd_14 hL)) (by decide) (by rw [e95]; exact inB_nI hk95 (by decide)) (by rw [e95, nI_clamp (by omega)]; exact rfH eT (rf_song hL hk95)) ?_
          refine At_lload (pc' := 98) iX10_cut_96 rfl rfl ?_
          refine At_ldc2 (v := (-81985529216486896 : Int64)) (pc' := 101) iX10_cut_98 rfl rfl ?_
          refine At_aload_n (pc' := 102) iX10_cut_101 rfl rfl ?_
          refine At_getR (pc' := 105) iX10_cut_102 rfl f_10_19 (kdK eT (kd_1 hL)) (by decide) (rfH eT (rf_1_1 hL)) ?_
          refine At_getI (pc' := 108) iX10_cut_105 rfl f_10_109 (kdK eT (kd_12 hL)) (by decide) ?_
          refine At_iconst (v := (-1)) (pc' := 109) iX10_cut_108 rfl (by decide) ?_
          refine At_virt (pc' := 112) iX10_cut_109 rfl m_10_185 rfl rfl (kdK eT (X7_k0 (isX7_song hL hk95))) (Nat.le_of_ble_eq_true rfl) (Nat.le_of_ble_eq_true rfl) ?_
          refine At.mono (show CallJ (d + 3) MX7_sungFrom [.ref (20 + 2 * k95), .long x6, .long (-81985529216486896 : Int64), .int (gI h 12 0), .int (-1)] h _ from hv) ?_
          rintro _ h109 ⟨r109, rfl, eT109, hv⟩
          show At (d + 4) MX10_cut 112 [.ref 1, .int x1, .int (x2 + nI 1), .int x5, .int x4, .int x5, .long x6, un, .int x8] [.long r109] h109 Q
          refine At_lstore (L' := [.ref 1, .int x1, .int (x2 + nI 1), .int x5, .int x4, .int x5, .long r109, un, .int x8]) (pc' := 114) iX10_cut_112 rfl (Nat.le_of_ble_eq_true rfl) rfl ?_
          refine At_iinc (v := nI 1) (L' := [.ref 1, .int x1, .int (x2 + nI 1), .int x5, .int x4, .int x5, .long r109, un, .int (x8 + nI 1)]) (pc' := 117) iX10_cut_114 rfl rfl (Nat.le_of_ble_eq_true rfl) (by decide) rfl ?_
          refine At_goto (t := 39) iX10_cut_117 (by decide) ?_
          exact hv
        · have hv := hv.1 c71
          refine At_iload (pc' := 76) iX10_cut_74 rfl rfl ?_
          refine At_goto (t := 81) iX10_cut_76 (by decide) ?_
          refine At_istore (L' := [.ref 1, .int x1, .int x2, .int x5, .int x8, .int x5, .long x6, un, .int x8]) (pc' := 83) iX10_cut_81 rfl (Nat.le_of_ble_eq_true rfl) rfl ?_
          refine At_iinc (v := nI 1) (L' := [.ref 1, .int x1, .int (x2 + nI 1), .int x5, .int x8, .int x5, .long x6, un, .int x8]) (pc' := 86) iX10_cut_83 rfl rfl (Nat.le_of_ble_eq_true rfl) (by decide) rfl ?_
          refine At_aload_n (pc' := 87) iX10_cut_86 rfl rfl ?_
          refine At_getR (pc' := 90) iX10_cut_87 rfl f_10_19 (kdK eT (kd_1 hL)) (by decide) (rfH eT (rf_1_1 hL)) ?_
          refine At_getR (pc' := 93) iX10_cut_90 rfl f_10_115 (kdK eT (kd_12 hL)) (by decide) (rfH eT (rf_12_5 hL)) ?_
          refine At_iload (pc' := 95) iX10_cut_93 rfl rfl ?_
          obtain ⟨k95, e95, hk95, hv⟩ := hv
          refine At_aald (b := (20 + 2 * k95)) (pc' := 96) iX10_cut_95 rfl (kdH eT (kd_14 hL)) (by decide) (by rw [e95]; exact inB_nI hk95 (by decide)) (by rw [e95, nI_clamp (by omega)]; exact rfH eT (rf_song hL hk95)) ?_
          refine At_lload (pc' := 98) iX10_cut_96 rfl rfl ?_
          refine At_ldc2 (v := (-81985529216486896 : Int64)) (pc' := 101) iX10_cut_98 rfl rfl ?_
          refine At_aload_n (pc' := 102) iX10_cut_101 rfl rfl ?_
          refine At_getR (pc' := 105) iX10_cut_102 rfl f_10_19 (kdK eT (kd_1 hL)) (by decide) (rfH eT (rf_1_1 hL)) ?_
          refine At_getI (pc' := 108) iX10_cut_105 rfl f_10_109 (kdK eT (kd_12 hL)) (by decide) ?_
          refine At_iconst (v := (-1)) (pc' := 109) iX10_cut_108 rfl (by decide) ?_
          refine At_virt (pc' := 112) iX10_cut_109 rfl m_10_185 rfl rfl (kdK eT (X7_k0 (isX7_song hL hk95))) (Nat.le_of_ble_eq_true rfl) (Nat.le_of_ble_eq_true rfl) ?_
          refine At.mono (show CallJ (d + 3) MX7_sungFrom [.ref (20 + 2 * k95), .long x6, .long (-81985529216486896 : Int64), .int (gI h 12 0), .int (-1)] h _ from hv) ?_
          rintro _ h109 ⟨r109, rfl, eT109, hv⟩
          show At (d + 4) MX10_cut 112 [.ref 1, .int x1, .int (x2 + nI 1), .int x5, .int x8, .int x5, .long x6, un, .int x8] [.long r109] h109 Q
          refine At_lstore (L' := [.ref 1, .int x1, .int (x2 + nI 1), .int x5, .int x8, .int x5, .long r109, un, .int x8]) (pc' := 114) iX10_cut_112 rfl (Nat.le_of_ble_eq_true rfl) rfl ?_
          refine At_iinc (v := nI 1) (L' := [.ref 1, .int x1, .int (x2 + nI 1), .int x5, .int x8, .int x5, .long r109, un, .int (x8 + nI 1)]) (pc' := 117) iX10_cut_114 rfl rfl (Nat.le_of_ble_eq_true rfl) (by decide) rfl ?_
          refine At_goto (t := 39) iX10_cut_117 (by decide) ?_
          exact hv
-- X10_fitsWithout (loop)
def L_X10_fitsWithout_6 (d : Nat) (x4 : Nat) (x1 : Int32) (x5 : Int32) (x6 : Int64) (x8 : Int32) (h : Hp) (Q : Option Value → Hp → Prop) : Prop := ∀ v2 v3 : Value, At (d + 4) MX10_fitsWithout 6 [.ref 1, .int x1, v2, v3, .ref x4, .int x5, .long x6, un, .int x8] [] h Q
set_option maxRecDepth 20000 in
theorem b_X10_fitsWithout {d : Nat} {T : HT} (hL : Lay T) {h : Hp} (eT : h.2.2 = T) (x1 : Int32) (x2 : Int64) (x4 : Nat) (x5 : Int32) (hA4 : IsX7 T x4) {Q : Option Value → Hp → Prop} (hv : L_X10_fitsWithout_6 d x4 x1 x5 x2 (nI 0) h Q) : Call (d + 4) MX10_fitsWithout [.ref 1, .int x1, .long x2, .ref x4, .int x5] h Q := by
  show At (d + 4) MX10_fitsWithout 0 [.ref 1, .int x1, .long x2, un, .ref x4, .int x5, un, un, un] [] h Q
  refine At_lload_n (pc' := 1) iX10_fitsWithout_0 rfl rfl ?_
  refine At_lstore (L' := [.ref 1, .int x1, .long x2, un, .ref x4, .int x5, .long x2, un, un]) (pc' := 3) iX10_fitsWithout_1 rfl (Nat.le_of_ble_eq_true rfl) rfl ?_
  refine At_iconst (v := nI 0) (pc' := 4) iX10_fitsWithout_3 rfl (by decide) ?_
  refine At_istore (L' := [.ref 1, .int x1, .long x2, un, .ref x4, .int x5, .long x2, un, .int (nI 0)]) (pc' := 6) iX10_fitsWithout_4 rfl (Nat.le_of_ble_eq_true rfl) rfl ?_
  exact hv _ _
set_option maxRecDepth 20000 in
theorem b_X10_fitsWithout_6 {d : Nat} {T : HT} (hL : Lay T) {h : Hp} (eT : h.2.2 = T) (x4 : Nat) (x1 : Int32) (x5 : Int32) (x6 : Int64) (x8 : Int32) (hA4 : IsX7 T x4) {Q : Option Value → Hp → Prop} (hv : ((x8 < x5) → (CallJ (d + 3) MX7_sungFrom [.ref x4, .long x6, .long (gJ h 12 2), .int (gI h 12 0), .int x1] h (fun r32 h32 => h32.2.2 = T ∧ (L_X10_fitsWithout_6 d x4 x1 x5 r32 (x8 + nI 1) h32 Q)))) ∧ (¬ (x8 < x5) → (CallJ (d + 3) MX8_seen [.ref 12, .long x6] h (fun r49 h49 => h49.2.2 = T ∧ ((((lg_cmp r49 (gJ h49 12 3)) = 0) → (Q (some (.int (b2i true))) h49)) ∧ (¬ ((lg_cmp r49 (gJ h49 12 3)) = 0) → (Q (some (.int (b2i false))) h49))))))) : L_X10_fitsWithout_6 d x4 x1 x5 x6 x8 h Q := by
  intro v2 v3
  refine At_iload (pc' := 8) iX10_fitsWithout_6 rfl rfl ?_
  refine At_iload (pc' := 10) iX10_fitsWithout_8 rfl rfl ?_
  refine At_icmp_ge (t := 43) (pc' := 13) iX10_fitsWithout_10 (by decide) rfl (fun c10 => ?_) (fun c10 => ?_)
  · have hv := hv.2 c10
    refine At_aload_n (pc' := 44) iX10_fitsWithout_43 rfl rfl ?_
    refine At_getR (pc' := 47) iX10_fitsWithout_44 rfl f_10_19 (kdK eT (kd_1 hL)) (by decide) (rfH eT (rf_1_1 hL)) ?_
    refine At_lload (pc' := 49) iX10_fitsWithout_47 rfl rfl ?_
    refine At_virt (pc' := 52) iX10_fitsWithout_49 rfl m_10_175 rfl rfl (kdK eT (kd_12 hL)) (Nat.le_of_ble_eq_true rfl) (Nat.le_of_ble_eq_true rfl) ?_
    refine At.mono (show CallJ (d + 3) MX8_seen [.ref 12, .long x6] h _ from hv) ?_
    rintro _ h49 ⟨r49, rfl, eT49, hv⟩
    show At (d + 4) MX10_fitsWithout 52 [.ref 1, .int x1, v2, v3, .ref x4, .int x5, .long x6, un, .int x8] [.long r49] h49 Q
    refine At_aload_n (pc' := 53) iX10_fitsWithout_52 rfl rfl ?_
    refine At_getR (pc' := 56) iX10_fitsWithout_53 rfl f_10_19 (kdK eT49 (kd_1 hL)) (by decide) (rfH eT49 (rf_1_1 hL)) ?_
    refine At_getJ (pc' := 59) iX10_fitsWithout_56 rfl f_10_189 (kdK eT49 (kd_12 hL)) (by decide) ?_
    refine At_lcmp (pc' := 60) iX10_fitsWithout_59 rfl ?_
    refine At_if_ne (t := 67) (pc' := 63) iX10_fitsWithout_60 (by decide) rfl (fun c60 => ?_) (fun c60 => ?_)
    · have hv := hv.2 c60
      refine At_iconst (v := nI 0) (pc' := 68) iX10_fitsWithout_67 rfl (by decide) ?_
      exact At_retF iX10_fitsWithout_68 rfl hv
    · have hv := hv.1 c60
      refine At_iconst (v := nI 1) (pc' := 64) iX10_fitsWithout_63 rfl (by decide) ?_
      refine At_goto (t := 68) iX10_fitsWithout_64 (by decide) ?_
      exact At_retT iX10_fitsWithout_68 rfl hv
  · have hv := hv.1 c10
    refine At_aload (pc' := 15) iX10_fitsWithout_13 rfl rfl ?_
    refine At_lload (pc' := 17) iX10_fitsWithout_15 rfl rfl ?_
    refine At_aload_n (pc' := 18) iX10_fitsWithout_17 rfl rfl ?_
    refine At_getR (pc' := 21) iX10_fitsWithout_18 rfl f_10_19 (kdK eT (kd_1 hL)) (by decide) (rfH eT (rf_1_1 hL)) ?_
    refine At_getJ (pc' := 24) iX10_fitsWithout_21 rfl f_10_78 (kdK eT (kd_12 hL)) (by decide) ?_
    refine At_aload_n (pc' := 25) iX10_fitsWithout_24 rfl rfl ?_
    refine At_getR (pc' := 28) iX10_fitsWithout_25 rfl f_10_19 (kdK eT (kd_1 hL)) (by decide) (rfH eT (rf_1_1 hL)) ?_
    refine At_getI (pc' := 31) iX10_fitsWithout_28 rfl f_10_109 (kdK eT (kd_12 hL)) (by decide) ?_
    refine At_iload_n (pc' := 32) iX10_fitsWithout_31 rfl rfl ?_
    refine At_virt (pc' := 35) iX10_fitsWithout_32 rfl m_10_185 rfl rfl (kdK eT (X7_k0 hA4)) (Nat.le_of_ble_eq_true rfl) (Nat.le_of_ble_eq_true rfl) ?_
    refine At.mono (show CallJ (d + 3) MX7_sungFrom [.ref x4, .long x6, .long (gJ h 12 2), .int (gI h 12 0), .int x1] h _ from hv) ?_
    rintro _ h32 ⟨r32, rfl, eT32, hv⟩
    show At (d + 4) MX10_fitsWithout 35 [.ref 1, .int x1, v2, v3, .ref x4, .int x5, .long x6, un, .int x8] [.long r32] h32 Q
    refine At_lstore (L' := [.ref 1, .int x1, v2, v3, .ref x4, .int x5, .long r32, un, .int x8]) (pc' := 37) iX10_fitsWithout_35 rfl (Nat.le_of_ble_eq_true rfl) rfl ?_
    refine At_iinc (v := nI 1) (L' := [.ref 1, .int x1, v2, v3, .ref x4, .int x5, .long r32, un, .int (x8 + nI 1)]) (pc' := 40) iX10_fitsWithout_37 rfl rfl (Nat.le_of_ble_eq_true rfl) (by decide) rfl ?_
    refine At_goto (t := 6) iX10_fitsWithout_40 (by decide) ?_
    exact hv _ _
