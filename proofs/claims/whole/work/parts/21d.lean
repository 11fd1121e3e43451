-- blocks between loop heads; written out by gen20.py
-- X1_leastFree (loop)
def L_X1_leastFree_2 (d : Nat) (a : Nat) (x1 : Int32) (x2 : Int32) (x3 : Int32) (h : Hp) (Q : Option Value → Hp → Prop) : Prop := At (d + 2) MX1_leastFree 2 [.ref a, .int x1, .int x2, .int x3] [] h Q
set_option maxRecDepth 20000 in
theorem b_X1_leastFree {d : Nat} {T : HT} (hL : Lay T) {h : Hp} (eT : h.2.2 = T) (a : Nat) (x1 : Int32) (x2 : Int32) (hA : IsX1 T a) {Q : Option Value → Hp → Prop} (hv : L_X1_leastFree_2 d a x1 x2 (nI 0) h Q) : Call (d + 2) MX1_leastFree [.ref a, .int x1, .int x2] h Q := by
  show At (d + 2) MX1_leastFree 0 [.ref a, .int x1, .int x2, un] [] h Q
  refine At_iconst (v := nI 0) (pc' := 1) iX1_leastFree_0 rfl (by decide) ?_
  refine At_istore_n (L' := [.ref a, .int x1, .int x2, .int (nI 0)]) (pc' := 2) iX1_leastFree_1 rfl (Nat.le_of_ble_eq_true rfl) rfl ?_
  exact hv
set_option maxRecDepth 20000 in
theorem b_X1_leastFree_2 {d : Nat} {T : HT} (hL : Lay T) {h : Hp} (eT : h.2.2 = T) (a : Nat) (x1 : Int32) (x2 : Int32) (x3 : Int32) (hA : IsX1 T a) {Q : Option Value → Hp → Prop} (hv : ((x3 < x2) → ((((x1 &&& ((nI 1) <<< (x3 &&& 31))) = 0) → (L_X1_leastFree_2 d a x1 x2 (x3 + nI 1) h Q)) ∧ (¬ ((x1 &&& ((nI 1) <<< (x3 &&& 31))) = 0) → (CallZ (d + 1) MX1_isCovered [.ref a, .int x3, .int x1, .int x2] h (fun r19 h19 => h19.2.2 = T ∧ (((r19 = true) → (L_X1_leastFree_2 d a x1 x2 (x3 + nI 1) h19 Q)) ∧ (¬ (r19 = true) → (Q (some (.int x3)) h19)))))))) ∧ (¬ (x3 < x2) → (Q (some (.int (-1))) h))) : L_X1_leastFree_2 d a x1 x2 x3 h Q := by
  refine At_iload_n (pc' := 3) iX1_leastFree_2 rfl rfl ?_
  refine At_iload_n (pc' := 4) iX1_leastFree_3 rfl rfl ?_
  refine At_icmp_ge (t := 33) (pc' := 7) iX1_leastFree_4 (by decide) rfl (fun c4 => ?_) (fun c4 => ?_)
  · have hv := hv.2 c4
    refine At_iconst (v := (-1)) (pc' := 34) iX1_leastFree_33 rfl (by decide) ?_
    exact At_retI iX1_leastFree_34 rfl hv
  · have hv := hv.1 c4
    refine At_iload_n (pc' := 8) iX1_leastFree_7 rfl rfl ?_
    refine At_iconst (v := nI 1) (pc' := 9) iX1_leastFree_8 rfl (by decide) ?_
    refine At_iload_n (pc' := 10) iX1_leastFree_9 rfl rfl ?_
    refine At_ishl (pc' := 11) iX1_leastFree_10 rfl ?_
    refine At_iand (pc' := 12) iX1_leastFree_11 rfl ?_
    refine At_if_eq (t := 27) (pc' := 15) iX1_leastFree_12 (by decide) rfl (fun c12 => ?_) (fun c12 => ?_)
    · have hv := hv.1 c12
      refine At_iinc (v := nI 1) (L' := [.ref a, .int x1, .int x2, .int (x3 + nI 1)]) (pc' := 30) iX1_leastFree_27 rfl rfl (Nat.le_of_ble_eq_true rfl) (by decide) rfl ?_
      refine At_goto (t := 2) iX1_leastFree_30 (by decide) ?_
      exact hv
    · have hv := hv.2 c12
      refine At_aload_n (pc' := 16) iX1_leastFree_15 rfl rfl ?_
      refine At_iload_n (pc' := 17) iX1_leastFree_16 rfl rfl ?_
      refine At_iload_n (pc' := 18) iX1_leastFree_17 rfl rfl ?_
      refine At_iload_n (pc' := 19) iX1_leastFree_18 rfl rfl ?_
      refine At_virt (pc' := 22) iX1_leastFree_19 rfl m_1_105 rfl rfl (kdK eT (X1_k0 hA)) (Nat.le_of_ble_eq_true rfl) (Nat.le_of_ble_eq_true rfl) ?_
      refine At.mono (show CallZ (d + 1) MX1_isCovered [.ref a, .int x3, .int x1, .int x2] h _ from hv) ?_
      rintro _ h19 ⟨r19, rfl, eT19, hv⟩
      show At (d + 2) MX1_leastFree 22 [.ref a, .int x1, .int x2, .int x3] [.int (b2i r19)] h19 Q
      refine At_zne (t := 27) (pc' := 25) iX1_leastFree_22 (by decide) rfl (fun c22 => ?_) (fun c22 => ?_)
      · have hv := hv.1 c22
        refine At_iinc (v := nI 1) (L' := [.ref a, .int x1, .int x2, .int (x3 + nI 1)]) (pc' := 30) iX1_leastFree_27 rfl rfl (Nat.le_of_ble_eq_true rfl) (by decide) rfl ?_
        refine At_goto (t := 2) iX1_leastFree_30 (by decide) ?_
        exact hv
      · have hv := hv.2 c22
        refine At_iload_n (pc' := 26) iX1_leastFree_25 rfl rfl ?_
        exact At_retI iX1_leastFree_26 rfl hv
-- X1_startAnew (calls J7_fill_53178)
set_option maxRecDepth 20000 in
theorem b_X1_startAnew {d : Nat} {T : HT} (hL : Lay T) {h : Hp} (eT : h.2.2 = T) (a : Nat) (x1 : Int32) (hA : IsX1 T a) {Q : Option Value → Hp → Prop} (hv : CallV (d + 1) MJ7_fill_53178 [.ref (a + 1), .int (nI 0)] (sI (sI (sJ h a 0 (r_X6_home x1)) a 2 (nI 0)) a 3 (nI 0)) (fun h23 => h23.2.2 = T ∧ (CallV (d + 1) MJ7_fill_53178 [.ref (a + 2), .int (nI 0)] h23 (fun h31 => h31.2.2 = T ∧ (Q none h31))))) : Call (d + 2) MX1_startAnew [.ref a, .int x1] h Q := by
  show At (d + 2) MX1_startAnew 0 [.ref a, .int x1] [] h Q
  refine At_aload_n (pc' := 1) iX1_startAnew_0 rfl rfl ?_
  refine At_iload_n (pc' := 2) iX1_startAnew_1 rfl rfl ?_
  refine At_stat (pc' := 5) iX1_startAnew_2 rfl m_1_9 rfl rfl (Nat.le_of_ble_eq_true rfl) (Nat.le_of_ble_eq_true rfl) (Nat.le_of_ble_eq_true rfl) ?_
  refine c_X6_home (h := h) x1   (show At (d + 2) MX1_startAnew 5 [.ref a, .int x1] [.long (r_X6_home x1), .ref a] h Q from ?_)
  refine At_putJ (pc' := 8) iX1_startAnew_5 rfl f_1_15 (kdK eT (X1_k0 hA)) (Or.inl rfl) (by decide) ?_
  refine At_aload_n (pc' := 9) iX1_startAnew_8 rfl rfl ?_
  refine At_iconst (v := nI 0) (pc' := 10) iX1_startAnew_9 rfl (by decide) ?_
  refine At_putI (pc' := 13) iX1_startAnew_10 rfl f_1_25 (kdK eT (X1_k0 hA)) (Or.inl rfl) (by decide) ?_
  refine At_aload_n (pc' := 14) iX1_startAnew_13 rfl rfl ?_
  refine At_iconst (v := nI 0) (pc' := 15) iX1_startAnew_14 rfl (by decide) ?_
  refine At_putI (pc' := 18) iX1_startAnew_15 rfl f_1_28 (kdK eT (X1_k0 hA)) (Or.inl rfl) (by decide) ?_
  refine At_aload_n (pc' := 19) iX1_startAnew_18 rfl rfl ?_
  refine At_getR (pc' := 22) iX1_startAnew_19 rfl f_1_31 (kdK eT (X1_k0 hA)) (by decide) (rfH eT (X1_r4 hA)) ?_
  refine At_iconst (v := nI 0) (pc' := 23) iX1_startAnew_22 rfl (by decide) ?_
  refine At_stat (pc' := 26) iX1_startAnew_23 rfl m_1_38 rfl rfl (Nat.le_of_ble_eq_true rfl) (Nat.le_of_ble_eq_true rfl) (Nat.le_of_ble_eq_true rfl) ?_
  refine At.mono (show CallV (d + 1) MJ7_fill_53178 [.ref (a + 1), .int (nI 0)] (sI (sI (sJ h a 0 (r_X6_home x1)) a 2 (nI 0)) a 3 (nI 0)) _ from hv) ?_
  rintro _ h23 ⟨rfl, eT23, hv⟩
  show At (d + 2) MX1_startAnew 26 [.ref a, .int x1] [] h23 Q
  refine At_aload_n (pc' := 27) iX1_startAnew_26 rfl rfl ?_
  refine At_getR (pc' := 30) iX1_startAnew_27 rfl f_1_35 (kdK eT23 (X1_k0 hA)) (by decide) (rfH eT23 (X1_r5 hA)) ?_
  refine At_iconst (v := nI 0) (pc' := 31) iX1_startAnew_30 rfl (by decide) ?_
  refine At_stat (pc' := 34) iX1_startAnew_31 rfl m_1_38 rfl rfl (Nat.le_of_ble_eq_true rfl) (Nat.le_of_ble_eq_true rfl) (Nat.le_of_ble_eq_true rfl) ?_
  refine At.mono (show CallV (d + 1) MJ7_fill_53178 [.ref (a + 2), .int (nI 0)] h23 _ from hv) ?_
  rintro _ h31 ⟨rfl, eT31, hv⟩
  show At (d + 2) MX1_startAnew 34 [.ref a, .int x1] [] h31 Q
  exact At_retV iX1_startAnew_34 rfl hv
-- X3_isSameColours (loop)
def L_X3_isSameColours_3 (d : Nat) (x0 : Int64) (x2 : Int64) (x4 : Int32) (x5 : Int32) (h : Hp) (Q : Option Value → Hp → Prop) : Prop := At (d + 2) MX3_isSameColours 3 [.long x0, un, .long x2, un, .int x4, .int x5] [] h Q
set_option maxRecDepth 20000 in
theorem b_X3_isSameColours {d : Nat} {T : HT} (hL : Lay T) {h : Hp} (eT : h.2.2 = T) (x0 : Int64) (x2 : Int64) (x4 : Int32)  {Q : Option Value → Hp → Prop} (hv : L_X3_isSameColours_3 d x0 x2 x4 (nI 0) h Q) : Call (d + 2) MX3_isSameColours [.long x0, .long x2, .int x4] h Q := by
  show At (d + 2) MX3_isSameColours 0 [.long x0, un, .long x2, un, .int x4, un] [] h Q
  refine At_iconst (v := nI 0) (pc' := 1) iX3_isSameColours_0 rfl (by decide) ?_
  refine At_istore (L' := [.long x0, un, .long x2, un, .int x4, .int (nI 0)]) (pc' := 3) iX3_isSameColours_1 rfl (Nat.le_of_ble_eq_true rfl) rfl ?_
  exact hv
set_option maxRecDepth 20000 in
theorem b_X3_isSameColours_3 {d : Nat} {T : HT} (hL : Lay T) {h : Hp} (eT : h.2.2 = T) (x0 : Int64) (x2 : Int64) (x4 : Int32) (x5 : Int32)  {Q : Option Value → Hp → Prop} (hv : ((x5 < (nI 10)) → (CallI (d + 1) MX3_countOf [.int x5, .long x0, .int x4] h (fun r15 h15 => h15.2.2 = T ∧ (CallI (d + 1) MX3_countOf [.int x5, .long x2, .int x4] h15 (fun r23 h23 => h23.2.2 = T ∧ (((r15 = r23) → (L_X3_isSameColours_3 d x0 x2 x4 (x5 + nI 1) h23 Q)) ∧ (¬ (r15 = r23) → (Q (some (.int (b2i false))) h23)))))))) ∧ (¬ (x5 < (nI 10)) → (Q (some (.int (b2i true))) h))) : L_X3_isSameColours_3 d x0 x2 x4 x5 h Q := by
  refine At_iload (pc' := 5) iX3_isSameColours_3 rfl rfl ?_
  refine At_bipush (v := nI 10) (pc' := 7) iX3_isSameColours_5 rfl (by decide) ?_
  refine At_icmp_ge (t := 37) (pc' := 10) iX3_isSameColours_7 (by decide) rfl (fun c7 => ?_) (fun c7 => ?_)
  · have hv := hv.2 c7
    refine At_iconst (v := nI 1) (pc' := 38) iX3_isSameColours_37 rfl (by decide) ?_
    exact At_retT iX3_isSameColours_38 rfl hv
  · have hv := hv.1 c7
    refine At_iload (pc' := 12) iX3_isSameColours_10 rfl rfl ?_
    refine At_lload_n (pc' := 13) iX3_isSameColours_12 rfl rfl ?_
    refine At_iload (pc' := 15) iX3_isSameColours_13 rfl rfl ?_
    refine At_stat (pc' := 18) iX3_isSameColours_15 rfl m_3_38 rfl rfl (Nat.le_of_ble_eq_true rfl) (Nat.le_of_ble_eq_true rfl) (Nat.le_of_ble_eq_true rfl) ?_
    refine At.mono (show CallI (d + 1) MX3_countOf [.int x5, .long x0, .int x4] h _ from hv) ?_
    rintro _ h15 ⟨r15, rfl, eT15, hv⟩
    show At (d + 2) MX3_isSameColours 18 [.long x0, un, .long x2, un, .int x4, .int x5] [.int r15] h15 Q
    refine At_iload (pc' := 20) iX3_isSameColours_18 rfl rfl ?_
    refine At_lload_n (pc' := 21) iX3_isSameColours_20 rfl rfl ?_
    refine At_iload (pc' := 23) iX3_isSameColours_21 rfl rfl ?_
    refine At_stat (pc' := 26) iX3_isSameColours_23 rfl m_3_38 rfl rfl (Nat.le_of_ble_eq_true rfl) (Nat.le_of_ble_eq_true rfl) (Nat.le_of_ble_eq_true rfl) ?_
    refine At.mono (show CallI (d + 1) MX3_countOf [.int x5, .long x2, .int x4] h15 _ from hv) ?_
    rintro _ h23 ⟨r23, rfl, eT23, hv⟩
    show At (d + 2) MX3_isSameColours 26 [.long x0, un, .long x2, un, .int x4, .int x5] [.int r23, .int r15] h23 Q
    refine At_icmp_eq (t := 31) (pc' := 29) iX3_isSameColours_26 (by decide) rfl (fun c26 => ?_) (fun c26 => ?_)
    · have hv := hv.1 c26
      refine At_iinc (v := nI 1) (L' := [.long x0, un, .long x2, un, .int x4, .int (x5 + nI 1)]) (pc' := 34) iX3_isSameColours_31 rfl rfl (Nat.le_of_ble_eq_true rfl) (by decide) rfl ?_
      refine At_goto (t := 3) iX3_isSameColours_34 (by decide) ?_
      exact hv
    · have hv := hv.2 c26
      refine At_iconst (v := nI 0) (pc' := 30) iX3_isSameColours_29 rfl (by decide) ?_
      exact At_retF iX3_isSameColours_30 rfl hv
-- X5_readClosing (loop)
def L_X5_readClosing_33 (d : Nat) (x1 : Int32) (x2 : Int32) (h : Hp) (Q : Option Value → Hp → Prop) : Prop := ∀ v3 : Value, At (d + 2) MX5_readClosing 33 [.ref 2, .int x1, .int x2, v3] [] h Q
def L_X5_readClosing_56 (d : Nat) (x1 : Int32) (x2 : Int32) (x3 : Int32) (h : Hp) (Q : Option Value → Hp → Prop) : Prop := At (d + 2) MX5_readClosing 56 [.ref 2, .int x1, .int x2, .int x3] [] h Q
set_option maxRecDepth 20000 in
theorem b_X5_readClosing {d : Nat} {T : HT} (hL : Lay T) {h : Hp} (eT : h.2.2 = T)   {Q : Option Value → Hp → Prop} (hv : (((gI h 2 9) = 0) → ((p_X5_fail (nI 1) h) ∧ (Q (some (.int (b2i (r_X5_fail (nI 1) h)))) (w_X5_fail (nI 1) h)))) ∧ (¬ ((gI h 2 9) = 0) → (L_X5_readClosing_33 d (gI (sI h 2 9 ((gI h 2 9) - (nI 1))) 8 0) (nI 1) (sI h 2 9 ((gI h 2 9) - (nI 1))) Q))) : Call (d + 2) MX5_readClosing [.ref 2] h Q := by
  show At (d + 2) MX5_readClosing 0 [.ref 2, un, un, un] [] h Q
  refine At_aload_n (pc' := 1) iX5_readClosing_0 rfl rfl ?_
  refine At_getI (pc' := 4) iX5_readClosing_1 rfl f_5_48 (kdK eT (kd_2 hL)) (by decide) ?_
  refine At_if_ne (t := 13) (pc' := 7) iX5_readClosing_4 (by decide) rfl (fun c4 => ?_) (fun c4 => ?_)
  · have hv := hv.2 c4
    refine At_aload_n (pc' := 14) iX5_readClosing_13 rfl rfl ?_
    refine At_dup (pc' := 15) iX5_readClosing_14 rfl rfl ?_
    refine At_getI (pc' := 18) iX5_readClosing_15 rfl f_5_48 (kdK eT (kd_2 hL)) (by decide) ?_
    refine At_iconst (v := nI 1) (pc' := 19) iX5_readClosing_18 rfl (by decide) ?_
    refine At_isub (pc' := 20) iX5_readClosing_19 rfl ?_
    refine At_putI (pc' := 23) iX5_readClosing_20 rfl f_5_48 (kdK eT (kd_2 hL)) (Or.inl rfl) (by decide) ?_
    refine At_aload_n (pc' := 24) iX5_readClosing_23 rfl rfl ?_
    refine At_getR (pc' := 27) iX5_readClosing_24 rfl f_5_28 (kdK eT (kd_2 hL)) (by decide) (rfH eT (rf_2_3 hL)) ?_
    refine At_getI (pc' := 30) iX5_readClosing_27 rfl f_5_61 (kdK eT (kd_8 hL)) (by decide) ?_
    refine At_istore_n (L' := [.ref 2, .int (gI (sI h 2 9 ((gI h 2 9) - (nI 1))) 8 0), un, un]) (pc' := 31) iX5_readClosing_30 rfl (Nat.le_of_ble_eq_true rfl) rfl ?_
    refine At_iconst (v := nI 1) (pc' := 32) iX5_readClosing_31 rfl (by decide) ?_
    refine At_istore_n (L' := [.ref 2, .int (gI (sI h 2 9 ((gI h 2 9) - (nI 1))) 8 0), .int (nI 1), un]) (pc' := 33) iX5_readClosing_32 rfl (Nat.le_of_ble_eq_true rfl) rfl ?_
    exact hv _
  · have hv := hv.1 c4
    refine At_aload_n (pc' := 8) iX5_readClosing_7 rfl rfl ?_
    refine At_iconst (v := nI 1) (pc' := 9) iX5_readClosing_8 rfl (by decide) ?_
    refine At_virt (pc' := 12) iX5_readClosing_9 rfl m_5_89 rfl rfl (kdK eT (kd_2 hL)) (Nat.le_of_ble_eq_true rfl) (Nat.le_of_ble_eq_true rfl) ?_
    obtain ⟨hn1, hv⟩ := hv
    refine c_X5_fail (h := h) hL eT (nI 1)  hn1 (show At (d + 2) MX5_readClosing 12 [.ref 2, un, un, un] [.int (b2i (r_X5_fail (nI 1) h))] (w_X5_fail (nI 1) h) Q from ?_)
    exact At_retZ iX5_readClosing_12 rfl (b2i_01 _) hv
set_option maxRecDepth 20000 in
theorem b_X5_readClosing_33 {d : Nat} {T : HT} (hL : Lay T) {h : Hp} (eT : h.2.2 = T) (x1 : Int32) (x2 : Int32)  {Q : Option Value → Hp → Prop} (hv : (inB (gI h 2 9) 4 = true) ∧ (((x2 < (gI h 11 ((gI h 2 9).toNatClampNeg))) → ((inB (gI h 2 9) 4 = true) ∧ (L_X5_readClosing_56 d x1 x2 (gI h 10 ((gI h 2 9).toNatClampNeg)) h Q))) ∧ (¬ (x2 < (gI h 11 ((gI h 2 9).toNatClampNeg))) → (Q (some (.int (b2i true))) h)))) : L_X5_readClosing_33 d x1 x2 h Q := by
  intro v3
  refine At_iload_n (pc' := 34) iX5_readClosing_33 rfl rfl ?_
  refine At_aload_n (pc' := 35) iX5_readClosing_34 rfl rfl ?_
  refine At_getR (pc' := 38) iX5_readClosing_35 rfl f_5_55 (kdK eT (kd_2 hL)) (by decide) (rfH eT (rf_2_11 hL)) ?_
  refine At_aload_n (pc' := 39) iX5_readClosing_38 rfl rfl ?_
  refine At_getI (pc' := 42) iX5_readClosing_39 rfl f_5_48 (kdK eT (kd_2 hL)) (by decide) ?_
  obtain ⟨hn1, hv⟩ := hv
  refine At_iald (pc' := 43) iX5_readClosing_42 rfl (kdH eT (kd_11 hL)) hn1 (show At (d + 2) MX5_readClosing 43 [.ref 2, .int x1, .int x2, v3] [.int (gI h 11 ((gI h 2 9).toNatClampNeg)), .int x2] h Q from ?_)
  refine At_icmp_ge (t := 86) (pc' := 46) iX5_readClosing_43 (by decide) rfl (fun c43 => ?_) (fun c43 => ?_)
  · have hv := hv.2 c43
    refine At_iconst (v := nI 1) (pc' := 87) iX5_readClosing_86 rfl (by decide) ?_
    exact At_retT iX5_readClosing_87 rfl hv
  · have hv := hv.1 c43
    refine At_aload_n (pc' := 47) iX5_readClosing_46 rfl rfl ?_
    refine At_getR (pc' := 50) iX5_readClosing_47 rfl f_5_51 (kdK eT (kd_2 hL)) (by decide) (rfH eT (rf_2_10 hL)) ?_
    refine At_aload_n (pc' := 51) iX5_readClosing_50 rfl rfl ?_
    refine At_getI (pc' := 54) iX5_readClosing_51 rfl f_5_48 (kdK eT (kd_2 hL)) (by decide) ?_
    obtain ⟨hn2, hv⟩ := hv
    refine At_iald (pc' := 55) iX5_readClosing_54 rfl (kdH eT (kd_10 hL)) hn2 (show At (d + 2) MX5_readClosing 55 [.ref 2, .int x1, .int x2, v3] [.int (gI h 10 ((gI h 2 9).toNatClampNeg))] h Q from ?_)
    refine At_istore_n (L' := [.ref 2, .int x1, .int x2, .int (gI h 10 ((gI h 2 9).toNatClampNeg))]) (pc' := 56) iX5_readClosing_55 rfl (Nat.le_of_ble_eq_true rfl) rfl ?_
    exact hv
set_option maxRecDepth 20000 in
theorem b_X5_readClosing_56 {d : Nat} {T : HT} (hL : Lay T) {h : Hp} (eT : h.2.2 = T) (x1 : Int32) (x2 : Int32) (x3 : Int32)  {Q : Option Value → Hp → Prop} (hv : ((x3 < x1) → ((inB x3 200 = true) ∧ ((p_X5_append (gI h 9 x3.toNatClampNeg) h) ∧ (L_X5_readClosing_56 d x1 x2 (x3 + nI 1) (w_X5_append (gI h 9 x3.toNatClampNeg) h) Q)))) ∧ (¬ (x3 < x1) → (L_X5_readClosing_33 d x1 (x2 + nI 1) h Q))) : L_X5_readClosing_56 d x1 x2 x3 h Q := by
  refine At_iload_n (pc' := 57) iX5_readClosing_56 rfl rfl ?_
  refine At_iload_n (pc' := 58) iX5_readClosing_57 rfl rfl ?_
  refine At_icmp_ge (t := 80) (pc' := 61) iX5_readClosing_58 (by decide) rfl (fun c58 => ?_) (fun c58 => ?_)
  · have hv := hv.2 c58
    refine At_iinc (v := nI 1) (L' := [.ref 2, .int x1, .int (x2 + nI 1), .int x3]) (pc' := 83) iX5_readClosing_80 rfl rfl (Nat.le_of_ble_eq_true rfl) (by decide) rfl ?_
    refine At_goto (t := 33) iX5_readClosing_83 (by decide) ?_
    exact hv _
  · have hv := hv.1 c58
    refine At_aload_n (pc' := 62) iX5_readClosing_61 rfl rfl ?_
    refine At_aload_n (pc' := 63) iX5_readClosing_62 rfl rfl ?_
    refine At_getR (pc' := 66) iX5_readClosing_63 rfl f_5_28 (kdK eT (kd_2 hL)) (by decide) (rfH eT (rf_2_3 hL)) ?_
    refine At_getR (pc' := 69) iX5_readClosing_66 rfl f_5_123 (kdK eT (kd_8 hL)) (by decide) (rfH eT (rf_8_1 hL)) ?_
    refine At_iload_n (pc' := 70) iX5_readClosing_69 rfl rfl ?_
    obtain ⟨hn1, hv⟩ := hv
    refine At_iald (pc' := 71) iX5_readClosing_70 rfl (kdH eT (kd_9 hL)) hn1 (show At (d + 2) MX5_readClosing 71 [.ref 2, .int x1, .int x2, .int x3] [.int (gI h 9 x3.toNatClampNeg), .ref 2] h Q from ?_)
    refine At_virt (pc' := 74) iX5_readClosing_71 rfl m_5_119 rfl rfl (kdK eT (kd_2 hL)) (Nat.le_of_ble_eq_true rfl) (Nat.le_of_ble_eq_true rfl) ?_
    obtain ⟨hn2, hv⟩ := hv
    refine c_X5_append (h := h) hL eT (gI h 9 x3.toNatClampNeg)  hn2 (show At (d + 2) MX5_readClosing 74 [.ref 2, .int x1, .int x2, .int x3] [] (w_X5_append (gI h 9 x3.toNatClampNeg) h) Q from ?_)
    refine At_iinc (v := nI 1) (L' := [.ref 2, .int x1, .int x2, .int (x3 + nI 1)]) (pc' := 77) iX5_readClosing_74 rfl rfl (Nat.le_of_ble_eq_true rfl) (by decide) rfl ?_
    refine At_goto (t := 56) iX5_readClosing_77 (by decide) ?_
    exact hv
-- X5_readNumber (by choice)
set_option maxRecDepth 20000 in
theorem b_X5_readNumber {d : Nat} {T : HT} (hL : Lay T) {h : Hp} (eT : h.2.2 = T) (x1 : Int32) (x2 : Int32)  {Q : Option Value → Hp → Prop} (hv : CallZ (d + 1) MX5_readToken [.ref 2, .int (nI 2)] h (fun r2 h2 => h2.2.2 = T ∧ (((r2 = true) → ((((gI h2 2 7) < x1) → ((p_X5_fail (nI 2) h2) ∧ ((((r_X5_fail (nI 2) h2) = true) → (Q (some (.int (b2i true))) (w_X5_fail (nI 2) h2))) ∧ (¬ ((r_X5_fail (nI 2) h2) = true) → (Q (some (.int (b2i false))) (w_X5_fail (nI 2) h2)))))) ∧ (¬ ((gI h2 2 7) < x1) → (((x2 < (gI h2 2 7)) → ((p_X5_fail (nI 2) h2) ∧ ((((r_X5_fail (nI 2) h2) = true) → (Q (some (.int (b2i true))) (w_X5_fail (nI 2) h2))) ∧ (¬ ((r_X5_fail (nI 2) h2) = true) → (Q (some (.int (b2i false))) (w_X5_fail (nI 2) h2)))))) ∧ (¬ (x2 < (gI h2 2 7)) → (Q (some (.int (b2i true))) h2)))))) ∧ (¬ (r2 = true) → (Q (some (.int (b2i false))) h2))))) : Call (d + 2) MX5_readNumber [.ref 2, .int x1, .int x2] h Q := by
  show At (d + 2) MX5_readNumber 0 [.ref 2, .int x1, .int x2] [] h Q
  refine At_aload_n (pc' := 1) iX5_readNumber_0 rfl rfl ?_
  refine At_iconst (v := nI 2) (pc' := 2) iX5_readNumber_1 rfl (by decide) ?_
  refine At_virt (pc' := 5) iX5_readNumber_2 rfl m_5_102 rfl rfl (kdK eT (kd_2 hL)) (Nat.le_of_ble_eq_true rfl) (Nat.le_of_ble_eq_true rfl) ?_
  refine At.mono (show CallZ (d + 1) MX5_readToken [.ref 2, .int (nI 2)] h _ from hv) ?_
  rintro _ h2 ⟨r2, rfl, eT2, hv⟩
  show At (d + 2) MX5_readNumber 5 [.ref 2, .int x1, .int x2] [.int (b2i r2)] h2 Q
  refine At_zne (t := 10) (pc' := 8) iX5_readNumber_5 (by decide) rfl (fun c5 => ?_) (fun c5 => ?_)
  · have hv := hv.1 c5
    refine At_aload_n (pc' := 11) iX5_readNumber_10 rfl rfl ?_
    refine At_getI (pc' := 14) iX5_readNumber_11 rfl f_5_41 (kdK eT2 (kd_2 hL)) (by decide) ?_
    refine At_iload_n (pc' := 15) iX5_readNumber_14 rfl rfl ?_
    refine At_icmp_lt (t := 26) (pc' := 18) iX5_readNumber_15 (by decide) rfl (fun c15 => ?_) (fun c15 => ?_)
    · have hv := hv.1 c15
      refine At_aload_n (pc' := 27) iX5_readNumber_26 rfl rfl ?_
      refine At_iconst (v := nI 2) (pc' := 28) iX5_readNumber_27 rfl (by decide) ?_
      refine At_virt (pc' := 31) iX5_readNumber_28 rfl m_5_89 rfl rfl (kdK eT2 (kd_2 hL)) (Nat.le_of_ble_eq_true rfl) (Nat.le_of_ble_eq_true rfl) ?_
      obtain ⟨hn1, hv⟩ := hv
      refine c_X5_fail (h := h2) hL eT2 (nI 2)  hn1 (show At (d + 2) MX5_readNumber 31 [.ref 2, .int x1, .int x2] [.int (b2i (r_X5_fail (nI 2) h2))] (w_X5_fail (nI 2) h2) Q from ?_)
      refine At_zeq (t := 38) (pc' := 34) iX5_readNumber_31 (by decide) rfl (fun c31 => ?_) (fun c31 => ?_)
      · have hv := hv.2 c31
        refine At_iconst (v := nI 0) (pc' := 39) iX5_readNumber_38 rfl (by decide) ?_
        exact At_retF iX5_readNumber_39 rfl hv
      · have hv := hv.1 c31
        refine At_iconst (v := nI 1) (pc' := 35) iX5_readNumber_34 rfl (by decide) ?_
        refine At_goto (t := 39) iX5_readNumber_35 (by decide) ?_
        exact At_retT iX5_readNumber_39 rfl hv
    · have hv := hv.2 c15
      refine At_aload_n (pc' := 19) iX5_readNumber_18 rfl rfl ?_
      refine At_getI (pc' := 22) iX5_readNumber_19 rfl f_5_41 (kdK eT2 (kd_2 hL)) (by decide) ?_
      refine At_iload_n (pc' := 23) iX5_readNumber_22 rfl rfl ?_
      refine At_icmp_le (t := 34) (pc' := 26) iX5_readNumber_23 (by decide) rfl (fun c23 => ?_) (fun c23 => ?_)
      · have hv := hv.2 c23
        refine At_iconst (v := nI 1) (pc' := 35) iX5_readNumber_34 rfl (by decide) ?_
        refine At_goto (t := 39) iX5_readNumber_35 (by decide) ?_
        exact At_retT iX5_readNumber_39 rfl hv
      · have hv := hv.1 c23
        refine At_aload_n (pc' := 27) iX5_readNumber_26 rfl rfl ?_
        refine At_iconst (v := nI 2) (pc' := 28) iX5_readNumber_27 rfl (by decide) ?_
        refine At_virt (pc' := 31) iX5_readNumber_28 rfl m_5_89 rfl rfl (kdK eT2 (kd_2 hL)) (Nat.le_of_ble_eq_true rfl) (Nat.le_of_ble_eq_true rfl) ?_
        obtain ⟨hn2, hv⟩ := hv
        refine c_X5_fail (h := h2) hL eT2 (nI 2)  hn2 (show At (d + 2) MX5_readNumber 31 [.ref 2, .int x1, .int x2] [.int (b2i (r_X5_fail (nI 2) h2))] (w_X5_fail (nI 2) h2) Q from ?_)
        refine At_zeq (t := 38) (pc' := 34) iX5_readNumber_31 (by decide) rfl (fun c31 => ?_) (fun c31 => ?_)
        · have hv := hv.2 c31
          refine At_iconst (v := nI 0) (pc' := 39) iX5_readNumber_38 rfl (by decide) ?_
          exact At_retF iX5_readNumber_39 rfl hv
        · have hv := hv.1 c31
          refine At_iconst (v := nI 1) (pc' := 35) iX5_readNumber_34 rfl (by decide) ?_
          refine At_goto (t := 39) iX5_readNumber_35 (by decide) ?_
          exact At_retT iX5_readNumber_39 rfl hv
  · have hv := hv.2 c5
    refine At_iconst (v := nI 0) (pc' := 9) iX5_readNumber_8 rfl (by decide) ?_
    exact At_retF iX5_readNumber_9 rfl hv
-- X10_of (sw)
set_option maxRecDepth 20000 in
theorem b_X10_of {d : Nat} {T : HT} (hL : Lay T) {h : Hp} (eT : h.2.2 = T) (x1 : Int32) (x2 : Int32)  {Q : Option Value → Hp → Prop} (hv : (((r_X10_isSlot x1 h) = true) → ((x2 = nI 0 → (CallI (d + 1) MX6_slotWith [.long (gJ h 15 0), .int x1, .int (gI h 12 0)] h (fun r54 h54 => h54.2.2 = T ∧ (Q (some (.int r54)) h54)))) ∧ (x2 = nI 1 → (Q (some (.int (r_X6_get (gJ h 12 2) x1))) h)) ∧ (x2 = nI 2 → ((inB x1 16 = true) ∧ (Q (some (.int (gI h 16 x1.toNatClampNeg))) h))) ∧ ((x2.toInt < 0 ∨ 2 < x2.toInt) → (Q (some (.int (-1))) h)))) ∧ (¬ ((r_X10_isSlot x1 h) = true) → (Q (some (.int (-1))) h))) : Call (d + 2) MX10_of [.ref 1, .int x1, .int x2] h Q := by
  show At (d + 2) MX10_of 0 [.ref 1, .int x1, .int x2] [] h Q
  refine At_aload_n (pc' := 1) iX10_of_0 rfl rfl ?_
  refine At_iload_n (pc' := 2) iX10_of_1 rfl rfl ?_
  refine At_virt (pc' := 5) iX10_of_2 rfl m_10_71 rfl rfl (kdK eT (kd_1 hL)) (Nat.le_of_ble_eq_true rfl) (Nat.le_of_ble_eq_true rfl) ?_
  refine c_X10_isSlot (h := h) hL eT x1   (show At (d + 2) MX10_of 5 [.ref 1, .int x1, .int x2] [.int (b2i (r_X10_isSlot x1 h))] h Q from ?_)
  refine At_zne (t := 10) (pc' := 8) iX10_of_5 (by decide) rfl (fun c5 => ?_) (fun c5 => ?_)
  · have hv := hv.1 c5
    refine At_iload_n (pc' := 11) iX10_of_10 rfl rfl ?_
    rcases tabCs x2 0 2 (by decide) with ct11 | ⟨kt, hkt, ct11⟩
    · have hv := hv.2.2.2 ct11
      refine At_tabOut (t := 83) iX10_of_11 ct11 (by decide) ?_
      refine At_iconst (v := (-1)) (pc' := 84) iX10_of_83 rfl (by decide) ?_
      exact At_retI iX10_of_84 rfl hv
    · match kt, hkt, ct11 with
      | 0, _, ct11 =>
        have hv := hv.1 ct11
        refine At_tabC (t := 36) (v := nI 0) ct11 iX10_of_11 (by decide) rfl (by decide) ?_
        refine At_aload_n (pc' := 37) iX10_of_36 rfl rfl ?_
        refine At_getR (pc' := 40) iX10_of_37 rfl f_10_19 (kdK eT (kd_1 hL)) (by decide) (rfH eT (rf_1_1 hL)) ?_
        refine At_getR (pc' := 43) iX10_of_40 rfl f_10_57 (kdK eT (kd_12 hL)) (by decide) (rfH eT (rf_12_6 hL)) ?_
        refine At_getJ (pc' := 46) iX10_of_43 rfl f_10_146 (kdK eT (kd_15 hL)) (by decide) ?_
        refine At_iload_n (pc' := 47) iX10_of_46 rfl rfl ?_
        refine At_aload_n (pc' := 48) iX10_of_47 rfl rfl ?_
        refine At_getR (pc' := 51) iX10_of_48 rfl f_10_19 (kdK eT (kd_1 hL)) (by decide) (rfH eT (rf_1_1 hL)) ?_
        refine At_getI (pc' := 54) iX10_of_51 rfl f_10_109 (kdK eT (kd_12 hL)) (by decide) ?_
        refine At_stat (pc' := 57) iX10_of_54 rfl m_10_153 rfl rfl (Nat.le_of_ble_eq_true rfl) (Nat.le_of_ble_eq_true rfl) (Nat.le_of_ble_eq_true rfl) ?_
        refine At.mono (show CallI (d + 1) MX6_slotWith [.long (gJ h 15 0), .int x1, .int (gI h 12 0)] h _ from hv) ?_
        rintro _ h54 ⟨r54, rfl, eT54, hv⟩
        show At (d + 2) MX10_of 57 [.ref 1, .int x1, .int x2] [.int r54] h54 Q
        exact At_retI iX10_of_57 rfl hv
      | 1, _, ct11 =>
        have hv := hv.2.1 ct11
        refine At_tabC (t := 58) (v := nI 1) ct11 iX10_of_11 (by decide) rfl (by decide) ?_
        refine At_aload_n (pc' := 59) iX10_of_58 rfl rfl ?_
        refine At_getR (pc' := 62) iX10_of_59 rfl f_10_19 (kdK eT (kd_1 hL)) (by decide) (rfH eT (rf_1_1 hL)) ?_
        refine At_getJ (pc' := 65) iX10_of_62 rfl f_10_78 (kdK eT (kd_12 hL)) (by decide) ?_
        refine At_iload_n (pc' := 66) iX10_of_65 rfl rfl ?_
        refine At_stat (pc' := 69) iX10_of_66 rfl m_10_149 rfl rfl (Nat.le_of_ble_eq_true rfl) (Nat.le_of_ble_eq_true rfl) (Nat.le_of_ble_eq_true rfl) ?_
        refine c_X6_get (h := h) (gJ h 12 2) x1   (show At (d + 2) MX10_of 69 [.ref 1, .int x1, .int x2] [.int (r_X6_get (gJ h 12 2) x1)] h Q from ?_)
        exact At_retI iX10_of_69 rfl hv
      | 2, _, ct11 =>
        have hv := hv.2.2.1 ct11
        refine At_tabC (t := 70) (v := nI 2) ct11 iX10_of_11 (by decide) rfl (by decide) ?_
        refine At_aload_n (pc' := 71) iX10_of_70 rfl rfl ?_
        refine At_getR (pc' := 74) iX10_of_71 rfl f_10_19 (kdK eT (kd_1 hL)) (by decide) (rfH eT (rf_1_1 hL)) ?_
        refine At_getR (pc' := 77) iX10_of_74 rfl f_10_57 (kdK eT (kd_12 hL)) (by decide) (rfH eT (rf_12_6 hL)) ?_
        refine At_getR (pc' := 80) iX10_of_77 rfl f_10_157 (kdK eT (kd_15 hL)) (by decide) (rfH eT (rf_15_4 hL)) ?_
        refine At_iload_n (pc' := 81) iX10_of_80 rfl rfl ?_
        obtain ⟨hn1, hv⟩ := hv
        refine At_iald (pc' := 82) iX10_of_81 rfl (kdH eT (kd_16 hL)) hn1 (show At (d + 2) MX10_of 82 [.ref 1, .int x1, .int x2] [.int (gI h 16 x1.toNatClampNeg)] h Q from ?_)
        exact At_retI iX10_of_82 rfl hv
      | k + 3, hkt, _ => exact absurd hkt (by omega)
  · have hv := hv.2 c5
    refine At_iconst (v := (-1)) (pc' := 9) iX10_of_8 rfl (by decide) ?_
    exact At_retI iX10_of_9 rfl hv
-- X10_period (loop)
def L_X10_period_13 (d : Nat) (x1 : Int32) (x2 : Int32) (h : Hp) (Q : Option Value → Hp → Prop) : Prop := At (d + 2) MX10_period 13 [.ref 1, .int x1, .int x2] [] h Q
set_option maxRecDepth 20000 in
theorem b_X10_period {d : Nat} {T : HT} (hL : Lay T) {h : Hp} (eT : h.2.2 = T) (x1 : Int32)  {Q : Option Value → Hp → Prop} (hv : ((x1 < 0) → (Q (some (.int (-1))) h)) ∧ (¬ (x1 < 0) → ((((nI 1) < x1) → (Q (some (.int (-1))) h)) ∧ (¬ ((nI 1) < x1) → (L_X10_period_13 d x1 (nI 1) h Q))))) : Call (d + 2) MX10_period [.ref 1, .int x1] h Q := by
  show At (d + 2) MX10_period 0 [.ref 1, .int x1, un] [] h Q
  refine At_iload_n (pc' := 1) iX10_period_0 rfl rfl ?_
  refine At_if_lt (t := 9) (pc' := 4) iX10_period_1 (by decide) rfl (fun c1 => ?_) (fun c1 => ?_)
  · have hv := hv.1 c1
    refine At_iconst (v := (-1)) (pc' := 10) iX10_period_9 rfl (by decide) ?_
    exact At_retI iX10_period_10 rfl hv
  · have hv := hv.2 c1
    refine At_iload_n (pc' := 5) iX10_period_4 rfl rfl ?_
    refine At_iconst (v := nI 1) (pc' := 6) iX10_period_5 rfl (by decide) ?_
    refine At_icmp_le (t := 11) (pc' := 9) iX10_period_6 (by decide) rfl (fun c6 => ?_) (fun c6 => ?_)
    · have hv := hv.2 c6
      refine At_iconst (v := nI 1) (pc' := 12) iX10_period_11 rfl (by decide) ?_
      refine At_istore_n (L' := [.ref 1, .int x1, .int (nI 1)]) (pc' := 13) iX10_period_12 rfl (Nat.le_of_ble_eq_true rfl) rfl ?_
      exact hv
    · have hv := hv.1 c6
      refine At_iconst (v := (-1)) (pc' := 10) iX10_period_9 rfl (by decide) ?_
      exact At_retI iX10_period_10 rfl hv
set_option maxRecDepth 20000 in
theorem b_X10_period_13 {d : Nat} {T : HT} (hL : Lay T) {h : Hp} (eT : h.2.2 = T) (x1 : Int32) (x2 : Int32)  {Q : Option Value → Hp → Prop} (hv : ((x2 < (gI h 15 3)) → (CallZ (d + 1) MX8_rowsComeAgain [.ref 12, .int x2, .int x1] h (fun r33 h33 => h33.2.2 = T ∧ (((r33 = true) → (Q (some (.int x2)) h33)) ∧ (¬ (r33 = true) → (L_X10_period_13 d x1 (x2 + nI 1) h33 Q)))))) ∧ (¬ (x2 < (gI h 15 3)) → (Q (some (.int (gI h 15 3))) h))) : L_X10_period_13 d x1 x2 h Q := by
  refine At_iload_n (pc' := 14) iX10_period_13 rfl rfl ?_
  refine At_aload_n (pc' := 15) iX10_period_14 rfl rfl ?_
  refine At_getR (pc' := 18) iX10_period_15 rfl f_10_19 (kdK eT (kd_1 hL)) (by decide) (rfH eT (rf_1_1 hL)) ?_
  refine At_getR (pc' := 21) iX10_period_18 rfl f_10_57 (kdK eT (kd_12 hL)) (by decide) (rfH eT (rf_12_6 hL)) ?_
  refine At_getI (pc' := 24) iX10_period_21 rfl f_10_165 (kdK eT (kd_15 hL)) (by decide) ?_
  refine At_icmp_ge (t := 47) (pc' := 27) iX10_period_24 (by decide) rfl (fun c24 => ?_) (fun c24 => ?_)
  · have hv := hv.2 c24
    refine At_aload_n (pc' := 48) iX10_period_47 rfl rfl ?_
    refine At_getR (pc' := 51) iX10_period_48 rfl f_10_19 (kdK eT (kd_1 hL)) (by decide) (rfH eT (rf_1_1 hL)) ?_
    refine At_getR (pc' := 54) iX10_period_51 rfl f_10_57 (kdK eT (kd_12 hL)) (by decide) (rfH eT (rf_12_6 hL)) ?_
    refine At_getI (pc' := 57) iX10_period_54 rfl f_10_165 (kdK eT (kd_15 hL)) (by decide) ?_
    exact At_retI iX10_period_57 rfl hv
  · have hv := hv.1 c24
    refine At_aload_n (pc' := 28) iX10_period_27 rfl rfl ?_
    refine At_getR (pc' := 31) iX10_period_28 rfl f_10_19 (kdK eT (kd_1 hL)) (by decide) (rfH eT (rf_1_1 hL)) ?_
    refine At_iload_n (pc' := 32) iX10_period_31 rfl rfl ?_
    refine At_iload_n (pc' := 33) iX10_period_32 rfl rfl ?_
    refine At_virt (pc' := 36) iX10_period_33 rfl m_10_253 rfl rfl (kdK eT (kd_12 hL)) (Nat.le_of_ble_eq_true rfl) (Nat.le_of_ble_eq_true rfl) ?_
    refine At.mono (show CallZ (d + 1) MX8_rowsComeAgain [.ref 12, .int x2, .int x1] h _ from hv) ?_
    rintro _ h33 ⟨r33, rfl, eT33, hv⟩
    show At (d + 2) MX10_period 36 [.ref 1, .int x1, .int x2] [.int (b2i r33)] h33 Q
    refine At_zeq (t := 41) (pc' := 39) iX10_period_36 (by decide) rfl (fun c36 => ?_) (fun c36 => ?_)
    · have hv := hv.2 c36
      refine At_iinc (v := nI 1) (L' := [.ref 1, .int x1, .int (x2 + nI 1)]) (pc' := 44) iX10_period_41 rfl rfl (Nat.le_of_ble_eq_true rfl) (by decide) rfl ?_
      refine At_goto (t := 13) iX10_period_44 (by decide) ?_
      exact hv
    · have hv := hv.1 c36
      refine At_iload_n (pc' := 40) iX10_period_39 rfl rfl ?_
      exact At_retI iX10_period_40 rfl hv
-- X10_ringOf (loop)
def L_X10_ringOf_7 (d : Nat) (x2 : Int32) (x3 : Int32) (x4 : Int32) (h : Hp) (Q : Option Value → Hp → Prop) : Prop := ∀ v1 : Value, At (d + 2) MX10_ringOf 7 [.ref 1, v1, .int x2, .int x3, .int x4] [] h Q
set_option maxRecDepth 20000 in
theorem b_X10_ringOf {d : Nat} {T : HT} (hL : Lay T) {h : Hp} (eT : h.2.2 = T) (x1 : Int32)  {Q : Option Value → Hp → Prop} (hv : L_X10_ringOf_7 d (nI 0) x1 (nI 0) h Q) : Call (d + 2) MX10_ringOf [.ref 1, .int x1] h Q := by
  show At (d + 2) MX10_ringOf 0 [.ref 1, .int x1, un, un, un] [] h Q
  refine At_iconst (v := nI 0) (pc' := 1) iX10_ringOf_0 rfl (by decide) ?_
  refine At_istore_n (L' := [.ref 1, .int x1, .int (nI 0), un, un]) (pc' := 2) iX10_ringOf_1 rfl (Nat.le_of_ble_eq_true rfl) rfl ?_
  refine At_iload_n (pc' := 3) iX10_ringOf_2 rfl rfl ?_
  refine At_istore_n (L' := [.ref 1, .int x1, .int (nI 0), .int x1, un]) (pc' := 4) iX10_ringOf_3 rfl (Nat.le_of_ble_eq_true rfl) rfl ?_
  refine At_iconst (v := nI 0) (pc' := 5) iX10_ringOf_4 rfl (by decide) ?_
  refine At_istore (L' := [.ref 1, .int x1, .int (nI 0), .int x1, .int (nI 0)]) (pc' := 7) iX10_ringOf_5 rfl (Nat.le_of_ble_eq_true rfl) rfl ?_
  exact hv _
set_option maxRecDepth 20000 in
theorem b_X10_ringOf_7 {d : Nat} {T : HT} (hL : Lay T) {h : Hp} (eT : h.2.2 = T) (x2 : Int32) (x3 : Int32) (x4 : Int32)  {Q : Option Value → Hp → Prop} (hv : ((x4 < (gI h 12 0)) → (CallI (d + 1) MX6_slotWith [.long (gJ h 15 0), .int x3, .int (gI h 12 0)] h (fun r43 h43 => h43.2.2 = T ∧ (L_X10_ringOf_7 d (x2 ||| ((nI 1) <<< (x3 &&& 31))) r43 (x4 + nI 1) h43 Q)))) ∧ (¬ (x4 < (gI h 12 0)) → (Q (some (.int x2)) h))) : L_X10_ringOf_7 d x2 x3 x4 h Q := by
  intro v1
  refine At_iload (pc' := 9) iX10_ringOf_7 rfl rfl ?_
  refine At_aload_n (pc' := 10) iX10_ringOf_9 rfl rfl ?_
  refine At_getR (pc' := 13) iX10_ringOf_10 rfl f_10_19 (kdK eT (kd_1 hL)) (by decide) (rfH eT (rf_1_1 hL)) ?_
  refine At_getI (pc' := 16) iX10_ringOf_13 rfl f_10_109 (kdK eT (kd_12 hL)) (by decide) ?_
  refine At_icmp_ge (t := 53) (pc' := 19) iX10_ringOf_16 (by decide) rfl (fun c16 => ?_) (fun c16 => ?_)
  · have hv := hv.2 c16
    refine At_iload_n (pc' := 54) iX10_ringOf_53 rfl rfl ?_
    exact At_retI iX10_ringOf_54 rfl hv
  · have hv := hv.1 c16
    refine At_iload_n (pc' := 20) iX10_ringOf_19 rfl rfl ?_
    refine At_iconst (v := nI 1) (pc' := 21) iX10_ringOf_20 rfl (by decide) ?_
    refine At_iload_n (pc' := 22) iX10_ringOf_21 rfl rfl ?_
    refine At_ishl (pc' := 23) iX10_ringOf_22 rfl ?_
    refine At_ior (pc' := 24) iX10_ringOf_23 rfl ?_
    refine At_istore_n (L' := [.ref 1, (if 0 = 0 ∧ v1.category = 2 then un else v1), .int (x2 ||| ((nI 1) <<< (x3 &&& 31))), .int x3, .int x4]) (pc' := 25) iX10_ringOf_24 rfl (Nat.le_of_ble_eq_true rfl) rfl ?_
    refine At_aload_n (pc' := 26) iX10_ringOf_25 rfl rfl ?_
    refine At_getR (pc' := 29) iX10_ringOf_26 rfl f_10_19 (kdK eT (kd_1 hL)) (by decide) (rfH eT (rf_1_1 hL)) ?_
    refine At_getR (pc' := 32) iX10_ringOf_29 rfl f_10_57 (kdK eT (kd_12 hL)) (by decide) (rfH eT (rf_12_6 hL)) ?_
    refine At_getJ (pc' := 35) iX10_ringOf_32 rfl f_10_146 (kdK eT (kd_15 hL)) (by decide) ?_
    refine At_iload_n (pc' := 36) iX10_ringOf_35 rfl rfl ?_
    refine At_aload_n (pc' := 37) iX10_ringOf_36 rfl rfl ?_
    refine At_getR (pc' := 40) iX10_ringOf_37 rfl f_10_19 (kdK eT (kd_1 hL)) (by decide) (rfH eT (rf_1_1 hL)) ?_
    refine At_getI (pc' := 43) iX10_ringOf_40 rfl f_10_109 (kdK eT (kd_12 hL)) (by decide) ?_
    refine At_stat (pc' := 46) iX10_ringOf_43 rfl m_10_153 rfl rfl (Nat.le_of_ble_eq_true rfl) (Nat.le_of_ble_eq_true rfl) (Nat.le_of_ble_eq_true rfl) ?_
    refine At.mono (show CallI (d + 1) MX6_slotWith [.long (gJ h 15 0), .int x3, .int (gI h 12 0)] h _ from hv) ?_
    rintro _ h43 ⟨r43, rfl, eT43, hv⟩
    show At (d + 2) MX10_ringOf 46 [.ref 1, (if 0 = 0 ∧ v1.category = 2 then un else v1), .int (x2 ||| ((nI 1) <<< (x3 &&& 31))), .int x3, .int x4] [.int r43] h43 Q
    refine At_istore_n (L' := [.ref 1, (if 0 = 0 ∧ v1.category = 2 then un else v1), .int (x2 ||| ((nI 1) <<< (x3 &&& 31))), .int r43, .int x4]) (pc' := 47) iX10_ringOf_46 rfl (Nat.le_of_ble_eq_true rfl) rfl ?_
    refine At_iinc (v := nI 1) (L' := [.ref 1, (if 0 = 0 ∧ v1.category = 2 then un else v1), .int (x2 ||| ((nI 1) <<< (x3 &&& 31))), .int r43, .int (x4 + nI 1)]) (pc' := 50) iX10_ringOf_47 rfl rfl (Nat.le_of_ble_eq_true rfl) (by decide) rfl ?_
    refine At_goto (t := 7) iX10_ringOf_50 (by decide) ?_
    exact hv _
-- X10_undo (calls X2_goBack)
set_option maxRecDepth 20000 in
theorem b_X10_undo {d : Nat} {T : HT} (hL : Lay T) {h : Hp} (eT : h.2.2 = T)   {Q : Option Value → Hp → Prop} (hv : CallZ (d + 1) MX2_goBack [.ref 28, .ref 15] h (fun r11 h11 => h11.2.2 = T ∧ (Q (some (.int (b2i r11))) h11))) : Call (d + 2) MX10_undo [.ref 1] h Q := by
  show At (d + 2) MX10_undo 0 [.ref 1] [] h Q
  refine At_aload_n (pc' := 1) iX10_undo_0 rfl rfl ?_
  refine At_getR (pc' := 4) iX10_undo_1 rfl f_10_26 (kdK eT (kd_1 hL)) (by decide) (rfH eT (rf_1_2 hL)) ?_
  refine At_aload_n (pc' := 5) iX10_undo_4 rfl rfl ?_
  refine At_getR (pc' := 8) iX10_undo_5 rfl f_10_19 (kdK eT (kd_1 hL)) (by decide) (rfH eT (rf_1_1 hL)) ?_
  refine At_getR (pc' := 11) iX10_undo_8 rfl f_10_57 (kdK eT (kd_12 hL)) (by decide) (rfH eT (rf_12_6 hL)) ?_
  refine At_virt (pc' := 14) iX10_undo_11 rfl m_10_257 rfl rfl (kdK eT (kd_28 hL)) (Nat.le_of_ble_eq_true rfl) (Nat.le_of_ble_eq_true rfl) ?_
  refine At.mono (show CallZ (d + 1) MX2_goBack [.ref 28, .ref 15] h _ from hv) ?_
  rintro _ h11 ⟨r11, rfl, eT11, hv⟩
  show At (d + 2) MX10_undo 14 [.ref 1] [.int (b2i r11)] h11 Q
  exact At_retZ iX10_undo_14 rfl (b2i_01 _) hv
-- X11_laysFar (loop)
def L_X11_laysFar_9 (d : Nat) (x1 : Int32) (x2 : Int32) (h : Hp) (Q : Option Value → Hp → Prop) : Prop := ∀ v3 v4 v5 v6 : Value, At (d + 2) MX11_laysFar 9 [.ref 59, .int x1, .int x2, v3, v4, v5, v6] [] h Q
def L_X11_laysFar_38 (d : Nat) (x1 : Int32) (x2 : Int32) (x3 : Int32) (h : Hp) (Q : Option Value → Hp → Prop) : Prop := ∀ v4 v5 v6 : Value, At (d + 2) MX11_laysFar 38 [.ref 59, .int x1, .int x2, .int x3, v4, v5, v6] [] h Q
def L_X11_laysFar_73 (d : Nat) (x1 : Int32) (x3 : Int32) (h : Hp) (Q : Option Value → Hp → Prop) : Prop := ∀ v2 v4 v5 v6 : Value, At (d + 2) MX11_laysFar 73 [.ref 59, .int x1, v2, .int x3, v4, v5, v6] [] h Q
def L_X11_laysFar_101 (d : Nat) (x1 : Int32) (x3 : Int32) (x4 : Int32) (x5 : Int32) (h : Hp) (Q : Option Value → Hp → Prop) : Prop := ∀ v2 v6 : Value, At (d + 2) MX11_laysFar 101 [.ref 59, .int x1, v2, .int x3, .int x4, .int x5, v6] [] h Q
def L_X11_laysFar_110 (d : Nat) (x1 : Int32) (x3 : Int32) (x4 : Int32) (x5 : Int32) (x6 : Int32) (h : Hp) (Q : Option Value → Hp → Prop) : Prop := ∀ v2 : Value, At (d + 2) MX11_laysFar 110 [.ref 59, .int x1, v2, .int x3, .int x4, .int x5, .int x6] [] h Q
set_option maxRecDepth 20000 in
theorem b_X11_laysFar {d : Nat} {T : HT} (hL : Lay T) {h : Hp} (eT : h.2.2 = T)   {Q : Option Value → Hp → Prop} (hv : L_X11_laysFar_9 d (gI h 60 0) (nI 0) h Q) : Call (d + 2) MX11_laysFar [.ref 59] h Q := by
  show At (d + 2) MX11_laysFar 0 [.ref 59, un, un, un, un, un, un] [] h Q
  refine At_aload_n (pc' := 1) iX11_laysFar_0 rfl rfl ?_
  refine At_getR (pc' := 4) iX11_laysFar_1 rfl f_11_7 (kdK eT (kd_59 hL)) (by decide) (rfH eT (rf_59_0 hL)) ?_
  refine At_iconst (v := nI 0) (pc' := 5) iX11_laysFar_4 rfl (by decide) ?_
  refine At_iald (pc' := 6) iX11_laysFar_5 rfl (kdH eT (kd_60 hL)) (by decide) (show At (d + 2) MX11_laysFar 6 [.ref 59, un, un, un, un, un, un] [.int (gI h 60 0)] h Q from ?_)
  refine At_istore_n (L' := [.ref 59, .int (gI h 60 0), un, un, un, un, un]) (pc' := 7) iX11_laysFar_6 rfl (Nat.le_of_ble_eq_true rfl) rfl ?_
  refine At_iconst (v := nI 0) (pc' := 8) iX11_laysFar_7 rfl (by decide) ?_
  refine At_istore_n (L' := [.ref 59, .int (gI h 60 0), .int (nI 0), un, un, un, un]) (pc' := 9) iX11_laysFar_8 rfl (Nat.le_of_ble_eq_true rfl) rfl ?_
  exact hv _ _ _ _
set_option maxRecDepth 20000 in
theorem b_X11_laysFar_9 {d : Nat} {T : HT} (hL : Lay T) {h : Hp} (eT : h.2.2 = T) (x1 : Int32) (x2 : Int32)  {Q : Option Value → Hp → Prop} (hv : ((x2 < (nI 16384)) → ((inB x2 16384 = true) ∧ (L_X11_laysFar_9 d x1 (x2 + nI 1) (sI h 67 x2.toNatClampNeg (-1)) Q))) ∧ (¬ (x2 < (nI 16384)) → (L_X11_laysFar_38 d x1 (nI 0) (nI 0) (sI h 59 23 (nI 0)) Q))) : L_X11_laysFar_9 d x1 x2 h Q := by
  intro v3 v4 v5 v6
  refine At_iload_n (pc' := 10) iX11_laysFar_9 rfl rfl ?_
  refine At_sipush (v := nI 16384) (pc' := 13) iX11_laysFar_10 rfl (by decide) ?_
  refine At_icmp_ge (t := 29) (pc' := 16) iX11_laysFar_13 (by decide) rfl (fun c13 => ?_) (fun c13 => ?_)
  · have hv := hv.2 c13
    refine At_aload_n (pc' := 30) iX11_laysFar_29 rfl rfl ?_
    refine At_iconst (v := nI 0) (pc' := 31) iX11_laysFar_30 rfl (by decide) ?_
    refine At_putI (pc' := 34) iX11_laysFar_31 rfl f_11_232 (kdK eT (kd_59 hL)) (Or.inl rfl) (by decide) ?_
    refine At_iconst (v := nI 0) (pc' := 35) iX11_laysFar_34 rfl (by decide) ?_
    refine At_istore_n (L' := [.ref 59, .int x1, .int (nI 0), v3, v4, v5, v6]) (pc' := 36) iX11_laysFar_35 rfl (Nat.le_of_ble_eq_true rfl) rfl ?_
    refine At_iconst (v := nI 0) (pc' := 37) iX11_laysFar_36 rfl (by decide) ?_
    refine At_istore_n (L' := [.ref 59, .int x1, .int (nI 0), .int (nI 0), v4, v5, v6]) (pc' := 38) iX11_laysFar_37 rfl (Nat.le_of_ble_eq_true rfl) rfl ?_
    exact hv _ _ _
  · have hv := hv.1 c13
    refine At_aload_n (pc' := 17) iX11_laysFar_16 rfl rfl ?_
    refine At_getR (pc' := 20) iX11_laysFar_17 rfl f_11_35 (kdK eT (kd_59 hL)) (by decide) (rfH eT (rf_59_19 hL)) ?_
    refine At_iload_n (pc' := 21) iX11_laysFar_20 rfl rfl ?_
    refine At_iconst (v := (-1)) (pc' := 22) iX11_laysFar_21 rfl (by decide) ?_
    obtain ⟨hn1, hv⟩ := hv
    refine At_iast (pc' := 23) iX11_laysFar_22 rfl (kdH eT (kd_67 hL)) hn1 (show At (d + 2) MX11_laysFar 23 [.ref 59, .int x1, .int x2, v3, v4, v5, v6] [] (sI h 67 x2.toNatClampNeg (-1)) Q from ?_)
    refine At_iinc (v := nI 1) (L' := [.ref 59, .int x1, .int (x2 + nI 1), v3, v4, v5, v6]) (pc' := 26) iX11_laysFar_23 rfl rfl (Nat.le_of_ble_eq_true rfl) (by decide) rfl ?_
    refine At_goto (t := 9) iX11_laysFar_26 (by decide) ?_
    exact hv _ _ _ _
set_option maxRecDepth 20000 in
theorem b_X11_laysFar_38 {d : Nat} {T : HT} (hL : Lay T) {h : Hp} (eT : h.2.2 = T) (x1 : Int32) (x2 : Int32) (x3 : Int32)  {Q : Option Value → Hp → Prop} (hv : ((x3 < x1) → ((inB ((nI 920) + x3) 4180 = true) ∧ (L_X11_laysFar_38 d x1 (((nI 10) * x2) + (gI h 60 (((nI 920) + x3).toNatClampNeg))) (x3 + nI 1) h Q))) ∧ (¬ (x3 < x1) → (CallV (d + 1) MX11_comes [.ref 59, .int x2, .int (nI 0)] h (fun h68 => h68.2.2 = T ∧ (L_X11_laysFar_73 d x1 (nI 0) h68 Q))))) : L_X11_laysFar_38 d x1 x2 x3 h Q := by
  intro v4 v5 v6
  refine At_iload_n (pc' := 39) iX11_laysFar_38 rfl rfl ?_
  refine At_iload_n (pc' := 40) iX11_laysFar_39 rfl rfl ?_
  refine At_icmp_ge (t := 65) (pc' := 43) iX11_laysFar_40 (by decide) rfl (fun c40 => ?_) (fun c40 => ?_)
  · have hv := hv.2 c40
    refine At_aload_n (pc' := 66) iX11_laysFar_65 rfl rfl ?_
    refine At_iload_n (pc' := 67) iX11_laysFar_66 rfl rfl ?_
    refine At_iconst (v := nI 0) (pc' := 68) iX11_laysFar_67 rfl (by decide) ?_
    refine At_virt (pc' := 71) iX11_laysFar_68 rfl m_11_235 rfl rfl (kdK eT (kd_59 hL)) (Nat.le_of_ble_eq_true rfl) (Nat.le_of_ble_eq_true rfl) ?_
    refine At.mono (show CallV (d + 1) MX11_comes [.ref 59, .int x2, .int (nI 0)] h _ from hv) ?_
    rintro _ h68 ⟨rfl, eT68, hv⟩
    show At (d + 2) MX11_laysFar 71 [.ref 59, .int x1, .int x2, .int x3, v4, v5, v6] [] h68 Q
    refine At_iconst (v := nI 0) (pc' := 72) iX11_laysFar_71 rfl (by decide) ?_
    refine At_istore_n (L' := [.ref 59, .int x1, .int x2, .int (nI 0), v4, v5, v6]) (pc' := 73) iX11_laysFar_72 rfl (Nat.le_of_ble_eq_true rfl) rfl ?_
    exact hv _ _ _ _
  · have hv := hv.1 c40
    refine At_bipush (v := nI 10) (pc' := 45) iX11_laysFar_43 rfl (by decide) ?_
    refine At_iload_n (pc' := 46) iX11_laysFar_45 rfl rfl ?_
    refine At_imul (pc' := 47) iX11_laysFar_46 rfl ?_
    refine At_aload_n (pc' := 48) iX11_laysFar_47 rfl rfl ?_
    refine At_getR (pc' := 51) iX11_laysFar_48 rfl f_11_7 (kdK eT (kd_59 hL)) (by decide) (rfH eT (rf_59_0 hL)) ?_
    refine At_sipush (v := nI 920) (pc' := 54) iX11_laysFar_51 rfl (by decide) ?_
    refine At_iload_n (pc' := 55) iX11_laysFar_54 rfl rfl ?_
    refine At_iadd (pc' := 56) iX11_laysFar_55 rfl ?_
    obtain ⟨hn1, hv⟩ := hv
    refine At_iald (pc' := 57) iX11_laysFar_56 rfl (kdH eT (kd_60 hL)) hn1 (show At (d + 2) MX11_laysFar 57 [.ref 59, .int x1, .int x2, .int x3, v4, v5, v6] [.int (gI h 60 (((nI 920) + x3).toNatClampNeg)), .int ((nI 10) * x2)] h Q from ?_)
    refine At_iadd (pc' := 58) iX11_laysFar_57 rfl ?_
    refine At_istore_n (L' := [.ref 59, .int x1, .int (((nI 10) * x2) + (gI h 60 (((nI 920) + x3).toNatClampNeg))), .int x3, v4, v5, v6]) (pc' := 59) iX11_laysFar_58 rfl (Nat.le_of_ble_eq_true rfl) rfl ?_
    refine At_iinc (v := nI 1) (L' := [.ref 59, .int x1, .int (((nI 10) * x2) + (gI h 60 (((nI 920) + x3).toNatClampNeg))), .int (x3 + nI 1), v4, v5, v6]) (pc' := 62) iX11_laysFar_59 rfl rfl (Nat.le_of_ble_eq_true rfl) (by decide) rfl ?_
    refine At_goto (t := 38) iX11_laysFar_62 (by decide) ?_
    exact hv _ _ _
set_option maxRecDepth 20000 in
theorem b_X11_laysFar_73 {d : Nat} {T : HT} (hL : Lay T) {h : Hp} (eT : h.2.2 = T) (x1 : Int32) (x3 : Int32)  {Q : Option Value → Hp → Prop} (hv : ((x3 < (gI h 59 23)) → ((inB x3 5040 = true) ∧ (CallI (d + 1) MX11_placeOf [.ref 59, .int (gI h 69 x3.toNatClampNeg)] h (fun r92 h92 => h92.2.2 = T ∧ ((inB r92 16384 = true) ∧ (L_X11_laysFar_101 d x1 x3 (gI h92 68 r92.toNatClampNeg) (nI 0) h92 Q)))))) ∧ (¬ (x3 < (gI h 59 23)) → (Q none h))) : L_X11_laysFar_73 d x1 x3 h Q := by
  intro v2 v4 v5 v6
  refine At_iload_n (pc' := 74) iX11_laysFar_73 rfl rfl ?_
  refine At_aload_n (pc' := 75) iX11_laysFar_74 rfl rfl ?_
  refine At_getI (pc' := 78) iX11_laysFar_75 rfl f_11_232 (kdK eT (kd_59 hL)) (by decide) ?_
  refine At_icmp_ge (t := 163) (pc' := 81) iX11_laysFar_78 (by decide) rfl (fun c78 => ?_) (fun c78 => ?_)
  · have hv := hv.2 c78
    exact At_retV iX11_laysFar_163 rfl hv
  · have hv := hv.1 c78
    refine At_aload_n (pc' := 82) iX11_laysFar_81 rfl rfl ?_
    refine At_getR (pc' := 85) iX11_laysFar_82 rfl f_11_38 (kdK eT (kd_59 hL)) (by decide) (rfH eT (rf_59_20 hL)) ?_
    refine At_aload_n (pc' := 86) iX11_laysFar_85 rfl rfl ?_
    refine At_aload_n (pc' := 87) iX11_laysFar_86 rfl rfl ?_
    refine At_getR (pc' := 90) iX11_laysFar_87 rfl f_11_41 (kdK eT (kd_59 hL)) (by decide) (rfH eT (rf_59_21 hL)) ?_
    refine At_iload_n (pc' := 91) iX11_laysFar_90 rfl rfl ?_
    obtain ⟨hn1, hv⟩ := hv
    refine At_iald (pc' := 92) iX11_laysFar_91 rfl (kdH eT (kd_69 hL)) hn1 (show At (d + 2) MX11_laysFar 92 [.ref 59, .int x1, v2, .int x3, v4, v5, v6] [.int (gI h 69 x3.toNatClampNeg), .ref 59, .ref 68] h Q from ?_)
    refine At_virt (pc' := 95) iX11_laysFar_92 rfl m_11_229 rfl rfl (kdK eT (kd_59 hL)) (Nat.le_of_ble_eq_true rfl) (Nat.le_of_ble_eq_true rfl) ?_
    refine At.mono (show CallI (d + 1) MX11_placeOf [.ref 59, .int (gI h 69 x3.toNatClampNeg)] h _ from hv) ?_
    rintro _ h92 ⟨r92, rfl, eT92, hv⟩
    show At (d + 2) MX11_laysFar 95 [.ref 59, .int x1, v2, .int x3, v4, v5, v6] [.int r92, .ref 68] h92 Q
    obtain ⟨hn2, hv⟩ := hv
    refine At_iald (pc' := 96) iX11_laysFar_95 rfl (kdH eT92 (kd_68 hL)) hn2 (show At (d + 2) MX11_laysFar 96 [.ref 59, .int x1, v2, .int x3, v4, v5, v6] [.int (gI h92 68 r92.toNatClampNeg)] h92 Q from ?_)
    refine At_istore (L' := [.ref 59, .int x1, v2, .int x3, .int (gI h92 68 r92.toNatClampNeg), v5, v6]) (pc' := 98) iX11_laysFar_96 rfl (Nat.le_of_ble_eq_true rfl) rfl ?_
    refine At_iconst (v := nI 0) (pc' := 99) iX11_laysFar_98 rfl (by decide) ?_
    refine At_istore (L' := [.ref 59, .int x1, v2, .int x3, .int (gI h92 68 r92.toNatClampNeg), .int (nI 0), v6]) (pc' := 101) iX11_laysFar_99 rfl (Nat.le_of_ble_eq_true rfl) rfl ?_
    exact hv _ _
set_option maxRecDepth 20000 in
theorem b_X11_laysFar_101 {d : Nat} {T : HT} (hL : Lay T) {h : Hp} (eT : h.2.2 = T) (x1 : Int32) (x3 : Int32) (x4 : Int32) (x5 : Int32)  {Q : Option Value → Hp → Prop} (hv : ((x5 < x1) → (L_X11_laysFar_110 d x1 x3 x4 x5 (nI 0) h Q)) ∧ (¬ (x5 < x1) → (L_X11_laysFar_73 d x1 (x3 + nI 1) h Q))) : L_X11_laysFar_101 d x1 x3 x4 x5 h Q := by
  intro v2 v6
  refine At_iload (pc' := 103) iX11_laysFar_101 rfl rfl ?_
  refine At_iload_n (pc' := 104) iX11_laysFar_103 rfl rfl ?_
  refine At_icmp_ge (t := 157) (pc' := 107) iX11_laysFar_104 (by decide) rfl (fun c104 => ?_) (fun c104 => ?_)
  · have hv := hv.2 c104
    refine At_iinc (v := nI 1) (L' := [.ref 59, .int x1, (if 0 = 0 ∧ v2.category = 2 then un else v2), .int (x3 + nI 1), .int x4, .int x5, v6]) (pc' := 160) iX11_laysFar_157 rfl rfl (Nat.le_of_ble_eq_true rfl) (by decide) rfl ?_
    refine At_goto (t := 73) iX11_laysFar_160 (by decide) ?_
    exact hv _ _ _ _
  · have hv := hv.1 c104
    refine At_iconst (v := nI 0) (pc' := 108) iX11_laysFar_107 rfl (by decide) ?_
    refine At_istore (L' := [.ref 59, .int x1, v2, .int x3, .int x4, .int x5, .int (nI 0)]) (pc' := 110) iX11_laysFar_108 rfl (Nat.le_of_ble_eq_true rfl) rfl ?_
    exact hv _
set_option maxRecDepth 20000 in
theorem b_X11_laysFar_110 {d : Nat} {T : HT} (hL : Lay T) {h : Hp} (eT : h.2.2 = T) (x1 : Int32) (x3 : Int32) (x4 : Int32) (x5 : Int32) (x6 : Int32)  {Q : Option Value → Hp → Prop} (hv : ((x6 < x1) → (((x5 = x6) → (L_X11_laysFar_110 d x1 x3 x4 x5 (x6 + nI 1) h Q)) ∧ (¬ (x5 = x6) → ((inB x3 5040 = true) ∧ (CallI (d + 1) MX11_liftedOf [.ref 59, .int (gI h 69 x3.toNatClampNeg), .int x5, .int x6] h (fun r135 h135 => h135.2.2 = T ∧ (CallV (d + 1) MX11_comes [.ref 59, .int r135, .int (x4 + (nI 1))] h135 (fun h142 => h142.2.2 = T ∧ (L_X11_laysFar_110 d x1 x3 x4 x5 (x6 + nI 1) h142 Q))))))))) ∧ (¬ (x6 < x1) → (L_X11_laysFar_101 d x1 x3 x4 (x5 + nI 1) h Q))) : L_X11_laysFar_110 d x1 x3 x4 x5 x6 h Q := by
  intro v2
  refine At_iload (pc' := 112) iX11_laysFar_110 rfl rfl ?_
  refine At_iload_n (pc' := 113) iX11_laysFar_112 rfl rfl ?_
  refine At_icmp_ge (t := 151) (pc' := 116) iX11_laysFar_113 (by decide) rfl (fun c113 => ?_) (fun c113 => ?_)
  · have hv := hv.2 c113
    refine At_iinc (v := nI 1) (L' := [.ref 59, .int x1, v2, .int x3, .int x4, .int (x5 + nI 1), .int x6]) (pc' := 154) iX11_laysFar_151 rfl rfl (Nat.le_of_ble_eq_true rfl) (by decide) rfl ?_
    refine At_goto (t := 101) iX11_laysFar_154 (by decide) ?_
    exact hv _ _
  · have hv := hv.1 c113
    refine At_iload (pc' := 118) iX11_laysFar_116 rfl rfl ?_
    refine At_iload (pc' := 120) iX11_laysFar_118 rfl rfl ?_
    refine At_icmp_eq (t := 145) (pc' := 123) iX11_laysFar_120 (by decide) rfl (fun c120 => ?_) (fun c120 => ?_)
    · have hv := hv.1 c120
      refine At_iinc (v := nI 1) (L' := [.ref 59, .int x1, v2, .int x3, .int x4, .int x5, .int (x6 + nI 1)]) (pc' := 148) iX11_laysFar_145 rfl rfl (Nat.le_of_ble_eq_true rfl) (by decide) rfl ?_
      refine At_goto (t := 110) iX11_laysFar_148 (by decide) ?_
      exact hv _
    · have hv := hv.2 c120
      refine At_aload_n (pc' := 124) iX11_laysFar_123 rfl rfl ?_
      refine At_aload_n (pc' := 125) iX11_laysFar_124 rfl rfl ?_
      refine At_aload_n (pc' := 126) iX11_laysFar_125 rfl rfl ?_
      refine At_getR (pc' := 129) iX11_laysFar_126 rfl f_11_41 (kdK eT (kd_59 hL)) (by decide) (rfH eT (rf_59_21 hL)) ?_
      refine At_iload_n (pc' := 130) iX11_laysFar_129 rfl rfl ?_
      obtain ⟨hn1, hv⟩ := hv
      refine At_iald (pc' := 131) iX11_laysFar_130 rfl (kdH eT (kd_69 hL)) hn1 (show At (d + 2) MX11_laysFar 131 [.ref 59, .int x1, v2, .int x3, .int x4, .int x5, .int x6] [.int (gI h 69 x3.toNatClampNeg), .ref 59, .ref 59] h Q from ?_)
      refine At_iload (pc' := 133) iX11_laysFar_131 rfl rfl ?_
      refine At_iload (pc' := 135) iX11_laysFar_133 rfl rfl ?_
      refine At_virt (pc' := 138) iX11_laysFar_135 rfl m_11_239 rfl rfl (kdK eT (kd_59 hL)) (Nat.le_of_ble_eq_true rfl) (Nat.le_of_ble_eq_true rfl) ?_
      refine At.mono (show CallI (d + 1) MX11_liftedOf [.ref 59, .int (gI h 69 x3.toNatClampNeg), .int x5, .int x6] h _ from hv) ?_
      rintro _ h135 ⟨r135, rfl, eT135, hv⟩
      show At (d + 2) MX11_laysFar 138 [.ref 59, .int x1, v2, .int x3, .int x4, .int x5, .int x6] [.int r135, .ref 59] h135 Q
      refine At_iload (pc' := 140) iX11_laysFar_138 rfl rfl ?_
      refine At_iconst (v := nI 1) (pc' := 141) iX11_laysFar_140 rfl (by decide) ?_
      refine At_iadd (pc' := 142) iX11_laysFar_141 rfl ?_
      refine At_virt (pc' := 145) iX11_laysFar_142 rfl m_11_235 rfl rfl (kdK eT135 (kd_59 hL)) (Nat.le_of_ble_eq_true rfl) (Nat.le_of_ble_eq_true rfl) ?_
      refine At.mono (show CallV (d + 1) MX11_comes [.ref 59, .int r135, .int (x4 + (nI 1))] h135 _ from hv) ?_
      rintro _ h142 ⟨rfl, eT142, hv⟩
      show At (d + 2) MX11_laysFar 145 [.ref 59, .int x1, v2, .int x3, .int x4, .int x5, .int x6] [] h142 Q
      refine At_iinc (v := nI 1) (L' := [.ref 59, .int x1, v2, .int x3, .int x4, .int x5, .int (x6 + nI 1)]) (pc' := 148) iX11_laysFar_145 rfl rfl (Nat.le_of_ble_eq_true rfl) (by decide) rfl ?_
      refine At_goto (t := 110) iX11_laysFar_148 (by decide) ?_
      exact hv _
-- X11_loops (loop)
def L_X11_loops_27 (d : Nat) (x2 : Int32) (x3 : Int32) (h : Hp) (Q : Option Value → Hp → Prop) : Prop := ∀ v1 : Value, At (d + 2) MX11_loops 27 [.ref 59, v1, .int x2, .int x3] [] h Q
set_option maxRecDepth 20000 in
theorem b_X11_loops {d : Nat} {T : HT} (hL : Lay T) {h : Hp} (eT : h.2.2 = T) (x1 : Int32)  {Q : Option Value → Hp → Prop} (hv : ((x1 = (-1)) → (L_X11_loops_27 d (nI 0) (nI 0) h Q)) ∧ (¬ (x1 = (-1)) → ((((r_X11_isSlot x1 h) = true) → (CallI (d + 1) MX11_ring [.ref 59, .int x1] h (fun r15 h15 => h15.2.2 = T ∧ (Q (some (.int r15)) h15)))) ∧ (¬ ((r_X11_isSlot x1 h) = true) → (Q (some (.int (-1))) h))))) : Call (d + 2) MX11_loops [.ref 59, .int x1] h Q := by
  show At (d + 2) MX11_loops 0 [.ref 59, .int x1, un, un] [] h Q
  refine At_iload_n (pc' := 1) iX11_loops_0 rfl rfl ?_
  refine At_iconst (v := (-1)) (pc' := 2) iX11_loops_1 rfl (by decide) ?_
  refine At_icmp_eq (t := 23) (pc' := 5) iX11_loops_2 (by decide) rfl (fun c2 => ?_) (fun c2 => ?_)
  · have hv := hv.1 c2
    refine At_iconst (v := nI 0) (pc' := 24) iX11_loops_23 rfl (by decide) ?_
    refine At_istore_n (L' := [.ref 59, .int x1, .int (nI 0), un]) (pc' := 25) iX11_loops_24 rfl (Nat.le_of_ble_eq_true rfl) rfl ?_
    refine At_iconst (v := nI 0) (pc' := 26) iX11_loops_25 rfl (by decide) ?_
    refine At_istore_n (L' := [.ref 59, .int x1, .int (nI 0), .int (nI 0)]) (pc' := 27) iX11_loops_26 rfl (Nat.le_of_ble_eq_true rfl) rfl ?_
    exact hv _
  · have hv := hv.2 c2
    refine At_aload_n (pc' := 6) iX11_loops_5 rfl rfl ?_
    refine At_iload_n (pc' := 7) iX11_loops_6 rfl rfl ?_
    refine At_virt (pc' := 10) iX11_loops_7 rfl m_11_78 rfl rfl (kdK eT (kd_59 hL)) (Nat.le_of_ble_eq_true rfl) (Nat.le_of_ble_eq_true rfl) ?_
    refine c_X11_isSlot (h := h) hL eT x1   (show At (d + 2) MX11_loops 10 [.ref 59, .int x1, un, un] [.int (b2i (r_X11_isSlot x1 h))] h Q from ?_)
    refine At_zeq (t := 21) (pc' := 13) iX11_loops_10 (by decide) rfl (fun c10 => ?_) (fun c10 => ?_)
    · have hv := hv.2 c10
      refine At_iconst (v := (-1)) (pc' := 22) iX11_loops_21 rfl (by decide) ?_
      exact At_retI iX11_loops_22 rfl hv
    · have hv := hv.1 c10
      refine At_aload_n (pc' := 14) iX11_loops_13 rfl rfl ?_
      refine At_iload_n (pc' := 15) iX11_loops_14 rfl rfl ?_
      refine At_virt (pc' := 18) iX11_loops_15 rfl m_11_273 rfl rfl (kdK eT (kd_59 hL)) (Nat.le_of_ble_eq_true rfl) (Nat.le_of_ble_eq_true rfl) ?_
      refine At.mono (show CallI (d + 1) MX11_ring [.ref 59, .int x1] h _ from hv) ?_
      rintro _ h15 ⟨r15, rfl, eT15, hv⟩
      show At (d + 2) MX11_loops 18 [.ref 59, .int x1, un, un] [.int r15] h15 Q
      refine At_goto (t := 22) iX11_loops_18 (by decide) ?_
      exact At_retI iX11_loops_22 rfl hv
set_option maxRecDepth 20000 in
theorem b_X11_loops_27 {d : Nat} {T : HT} (hL : Lay T) {h : Hp} (eT : h.2.2 = T) (x2 : Int32) (x3 : Int32)  {Q : Option Value → Hp → Prop} (hv : ((x3 < (gI h 60 0)) → (CallZ (d + 1) MX11_isLeast [.ref 59, .int x3] h (fun r40 h40 => h40.2.2 = T ∧ (((r40 = true) → (L_X11_loops_27 d (x2 + (nI 1)) (x3 + nI 1) h40 Q)) ∧ (¬ (r40 = true) → (L_X11_loops_27 d (x2 + (nI 0)) (x3 + nI 1) h40 Q)))))) ∧ (¬ (x3 < (gI h 60 0)) → (Q (some (.int x2)) h))) : L_X11_loops_27 d x2 x3 h Q := by
  intro v1
  refine At_iload_n (pc' := 28) iX11_loops_27 rfl rfl ?_
  refine At_aload_n (pc' := 29) iX11_loops_28 rfl rfl ?_
  refine At_getR (pc' := 32) iX11_loops_29 rfl f_11_7 (kdK eT (kd_59 hL)) (by decide) (rfH eT (rf_59_0 hL)) ?_
  refine At_iconst (v := nI 0) (pc' := 33) iX11_loops_32 rfl (by decide) ?_
  refine At_iald (pc' := 34) iX11_loops_33 rfl (kdH eT (kd_60 hL)) (by decide) (show At (d + 2) MX11_loops 34 [.ref 59, v1, .int x2, .int x3] [.int (gI h 60 0), .int x3] h Q from ?_)
  refine At_icmp_ge (t := 59) (pc' := 37) iX11_loops_34 (by decide) rfl (fun c34 => ?_) (fun c34 => ?_)
  · have hv := hv.2 c34
    refine At_iload_n (pc' := 60) iX11_loops_59 rfl rfl ?_
    exact At_retI iX11_loops_60 rfl hv
  · have hv := hv.1 c34
    refine At_iload_n (pc' := 38) iX11_loops_37 rfl rfl ?_
    refine At_aload_n (pc' := 39) iX11_loops_38 rfl rfl ?_
    refine At_iload_n (pc' := 40) iX11_loops_39 rfl rfl ?_
    refine At_virt (pc' := 43) iX11_loops_40 rfl m_11_276 rfl rfl (kdK eT (kd_59 hL)) (Nat.le_of_ble_eq_true rfl) (Nat.le_of_ble_eq_true rfl) ?_
    refine At.mono (show CallZ (d + 1) MX11_isLeast [.ref 59, .int x3] h _ from hv) ?_
    rintro _ h40 ⟨r40, rfl, eT40, hv⟩
    show At (d + 2) MX11_loops 43 [.ref 59, v1, .int x2, .int x3] [.int (b2i r40), .int x2] h40 Q
    refine At_zeq (t := 50) (pc' := 46) iX11_loops_43 (by decide) rfl (fun c43 => ?_) (fun c43 => ?_)
    · have hv := hv.2 c43
      refine At_iconst (v := nI 0) (pc' := 51) iX11_loops_50 rfl (by decide) ?_
      refine At_iadd (pc' := 52) iX11_loops_51 rfl ?_
      refine At_istore_n (L' := [.ref 59, (if 0 = 0 ∧ v1.category = 2 then un else v1), .int (x2 + (nI 0)), .int x3]) (pc' := 53) iX11_loops_52 rfl (Nat.le_of_ble_eq_true rfl) rfl ?_
      refine At_iinc (v := nI 1) (L' := [.ref 59, (if 0 = 0 ∧ v1.category = 2 then un else v1), .int (x2 + (nI 0)), .int (x3 + nI 1)]) (pc' := 56) iX11_loops_53 rfl rfl (Nat.le_of_ble_eq_true rfl) (by decide) rfl ?_
      refine At_goto (t := 27) iX11_loops_56 (by decide) ?_
      exact hv _
    · have hv := hv.1 c43
      refine At_iconst (v := nI 1) (pc' := 47) iX11_loops_46 rfl (by decide) ?_
      refine At_goto (t := 51) iX11_loops_47 (by decide) ?_
      refine At_iadd (pc' := 52) iX11_loops_51 rfl ?_
      refine At_istore_n (L' := [.ref 59, (if 0 = 0 ∧ v1.category = 2 then un else v1), .int (x2 + (nI 1)), .int x3]) (pc' := 53) iX11_loops_52 rfl (Nat.le_of_ble_eq_true rfl) rfl ?_
      refine At_iinc (v := nI 1) (L' := [.ref 59, (if 0 = 0 ∧ v1.category = 2 then un else v1), .int (x2 + (nI 1)), .int (x3 + nI 1)]) (pc' := 56) iX11_loops_53 rfl rfl (Nat.le_of_ble_eq_true rfl) (by decide) rfl ?_
      refine At_goto (t := 27) iX11_loops_56 (by decide) ?_
      exact hv _
-- X11_moves (calls X11_lifts)
def L_X11_moves_100 (d : Nat) (x1 : Int32) (x2 : Int32) (x4 : Int32) (x5 : Int32) (x6 : Int32) (x7 : Int32) (x8 : Int32) (x9 : Int32) (h : Hp) (Q : Option Value → Hp → Prop) : Prop := ∀ v3 v10 v11 : Value, At (d + 2) MX11_moves 100 [.ref 59, .int x1, .int x2, v3, .int x4, .int x5, .int x6, .int x7, .int x8, .int x9, v10, v11] [] h Q
def L_X11_moves_153 (d : Nat) (x6 : Int32) (x7 : Int32) (x8 : Int32) (x9 : Int32) (x10 : Int32) (h : Hp) (Q : Option Value → Hp → Prop) : Prop := ∀ v1 v2 v3 v4 v5 v11 : Value, At (d + 2) MX11_moves 153 [.ref 59, v1, v2, v3, v4, v5, .int x6, .int x7, .int x8, .int x9, .int x10, v11] [] h Q
set_option maxRecDepth 20000 in
theorem b_X11_moves {d : Nat} {T : HT} (hL : Lay T) {h : Hp} (eT : h.2.2 = T) (x1 : Int32) (x2 : Int32) (x3 : Int32) (x4 : Int32) (x5 : Int32) (x6 : Int32)  {Q : Option Value → Hp → Prop} (hv : (p_X11_ofMove x1 x2 (nI 0) h) ∧ ((p_X11_ofMove x1 x2 (nI 1) h) ∧ ((((r_X11_ofMove x1 x2 (nI 0) h) = (nI 2)) → (((x3 = 0) → ((¬ (gI h 60 0) = 0) ∧ (CallV (d + 1) MX11_turns [.ref 59, .int (irem (r_X11_ofMove x1 x2 (nI 1) h) (gI h 60 0))] h (fun h56 => h56.2.2 = T ∧ (Q (some (.int (-1))) h56))))) ∧ (¬ (x3 = 0) → ((¬ (gI h 60 0) = 0) ∧ ((¬ (gI h 60 0) = 0) ∧ (CallV (d + 1) MX11_turns [.ref 59, .int (irem ((gI h 60 0) - (irem (r_X11_ofMove x1 x2 (nI 1) h) (gI h 60 0))) (gI h 60 0))] h (fun h56 => h56.2.2 = T ∧ (Q (some (.int (-1))) h56)))))))) ∧ (¬ ((r_X11_ofMove x1 x2 (nI 0) h) = (nI 2)) → ((p_X11_ofMove x1 x2 (nI 2) h) ∧ (((x3 = 0) → (L_X11_moves_100 d x1 x2 x4 x5 x6 (r_X11_ofMove x1 x2 (nI 0) h) (r_X11_ofMove x1 x2 (nI 1) h) (r_X11_ofMove x1 x2 (nI 2) h) h Q)) ∧ (¬ (x3 = 0) → (L_X11_moves_100 d x1 x2 x4 x5 x6 (r_X11_ofMove x1 x2 (nI 0) h) (((gI h 60 0) - (nI 1)) - (r_X11_ofMove x1 x2 (nI 1) h)) (((gI h 60 0) - (nI 1)) - (r_X11_ofMove x1 x2 (nI 2) h)) h Q)))))))) : Call (d + 2) MX11_moves [.ref 59, .int x1, .int x2, .int x3, .int x4, .int x5, .int x6] h Q := by
  show At (d + 2) MX11_moves 0 [.ref 59, .int x1, .int x2, .int x3, .int x4, .int x5, .int x6, un, un, un, un, un] [] h Q
  refine At_aload_n (pc' := 1) iX11_moves_0 rfl rfl ?_
  refine At_iload_n (pc' := 2) iX11_moves_1 rfl rfl ?_
  refine At_iload_n (pc' := 3) iX11_moves_2 rfl rfl ?_
  refine At_iconst (v := nI 0) (pc' := 4) iX11_moves_3 rfl (by decide) ?_
  refine At_virt (pc' := 7) iX11_moves_4 rfl m_11_185 rfl rfl (kdK eT (kd_59 hL)) (Nat.le_of_ble_eq_true rfl) (Nat.le_of_ble_eq_true rfl) ?_
  obtain ⟨hn1, hv⟩ := hv
  refine c_X11_ofMove (h := h) hL eT x1 x2 (nI 0)  hn1 (show At (d + 2) MX11_moves 7 [.ref 59, .int x1, .int x2, .int x3, .int x4, .int x5, .int x6, un, un, un, un, un] [.int (r_X11_ofMove x1 x2 (nI 0) h)] h Q from ?_)
  refine At_istore (L' := [.ref 59, .int x1, .int x2, .int x3, .int x4, .int x5, .int x6, .int (r_X11_ofMove x1 x2 (nI 0) h), un, un, un, un]) (pc' := 9) iX11_moves_7 rfl (Nat.le_of_ble_eq_true rfl) rfl ?_
  refine At_aload_n (pc' := 10) iX11_moves_9 rfl rfl ?_
  refine At_iload_n (pc' := 11) iX11_moves_10 rfl rfl ?_
  refine At_iload_n (pc' := 12) iX11_moves_11 rfl rfl ?_
  refine At_iconst (v := nI 1) (pc' := 13) iX11_moves_12 rfl (by decide) ?_
  refine At_virt (pc' := 16) iX11_moves_13 rfl m_11_185 rfl rfl (kdK eT (kd_59 hL)) (Nat.le_of_ble_eq_true rfl) (Nat.le_of_ble_eq_true rfl) ?_
  obtain ⟨hn2, hv⟩ := hv
  refine c_X11_ofMove (h := h) hL eT x1 x2 (nI 1)  hn2 (show At (d + 2) MX11_moves 16 [.ref 59, .int x1, .int x2, .int x3, .int x4, .int x5, .int x6, .int (r_X11_ofMove x1 x2 (nI 0) h), un, un, un, un] [.int (r_X11_ofMove x1 x2 (nI 1) h)] h Q from ?_)
  refine At_istore (L' := [.ref 59, .int x1, .int x2, .int x3, .int x4, .int x5, .int x6, .int (r_X11_ofMove x1 x2 (nI 0) h), .int (r_X11_ofMove x1 x2 (nI 1) h), un, un, un]) (pc' := 18) iX11_moves_16 rfl (Nat.le_of_ble_eq_true rfl) rfl ?_
  refine At_iload (pc' := 20) iX11_moves_18 rfl rfl ?_
  refine At_iconst (v := nI 2) (pc' := 21) iX11_moves_20 rfl (by decide) ?_
  refine At_icmp_ne (t := 61) (pc' := 24) iX11_moves_21 (by decide) rfl (fun c21 => ?_) (fun c21 => ?_)
  · have hv := hv.2 c21
    refine At_aload_n (pc' := 62) iX11_moves_61 rfl rfl ?_
    refine At_iload_n (pc' := 63) iX11_moves_62 rfl rfl ?_
    refine At_iload_n (pc' := 64) iX11_moves_63 rfl rfl ?_
    refine At_iconst (v := nI 2) (pc' := 65) iX11_moves_64 rfl (by decide) ?_
    refine At_virt (pc' := 68) iX11_moves_65 rfl m_11_185 rfl rfl (kdK eT (kd_59 hL)) (Nat.le_of_ble_eq_true rfl) (Nat.le_of_ble_eq_true rfl) ?_
    obtain ⟨hn3, hv⟩ := hv
    refine c_X11_ofMove (h := h) hL eT x1 x2 (nI 2)  hn3 (show At (d + 2) MX11_moves 68 [.ref 59, .int x1, .int x2, .int x3, .int x4, .int x5, .int x6, .int (r_X11_ofMove x1 x2 (nI 0) h), .int (r_X11_ofMove x1 x2 (nI 1) h), un, un, un] [.int (r_X11_ofMove x1 x2 (nI 2) h)] h Q from ?_)
    refine At_istore (L' := [.ref 59, .int x1, .int x2, .int x3, .int x4, .int x5, .int x6, .int (r_X11_ofMove x1 x2 (nI 0) h), .int (r_X11_ofMove x1 x2 (nI 1) h), .int (r_X11_ofMove x1 x2 (nI 2) h), un, un]) (pc' := 70) iX11_moves_68 rfl (Nat.le_of_ble_eq_true rfl) rfl ?_
    refine At_iload_n (pc' := 71) iX11_moves_70 rfl rfl ?_
    refine At_if_eq (t := 100) (pc' := 74) iX11_moves_71 (by decide) rfl (fun c71 => ?_) (fun c71 => ?_)
    · have hv := hv.1 c71
      exact hv _ _ _
    · have hv := hv.2 c71
      refine At_aload_n (pc' := 75) iX11_moves_74 rfl rfl ?_
      refine At_getR (pc' := 78) iX11_moves_75 rfl f_11_7 (kdK eT (kd_59 hL)) (by decide) (rfH eT (rf_59_0 hL)) ?_
      refine At_iconst (v := nI 0) (pc' := 79) iX11_moves_78 rfl (by decide) ?_
      refine At_iald (pc' := 80) iX11_moves_79 rfl (kdH eT (kd_60 hL)) (by decide) (show At (d + 2) MX11_moves 80 [.ref 59, .int x1, .int x2, .int x3, .int x4, .int x5, .int x6, .int (r_X11_ofMove x1 x2 (nI 0) h), .int (r_X11_ofMove x1 x2 (nI 1) h), .int (r_X11_ofMove x1 x2 (nI 2) h), un, un] [.int (gI h 60 0)] h Q from ?_)
      refine At_iconst (v := nI 1) (pc' := 81) iX11_moves_80 rfl (by decide) ?_
      refine At_isub (pc' := 82) iX11_moves_81 rfl ?_
      refine At_iload (pc' := 84) iX11_moves_82 rfl rfl ?_
      refine At_isub (pc' := 85) iX11_moves_84 rfl ?_
      refine At_istore (L' := [.ref 59, .int x1, .int x2, .int x3, .int x4, .int x5, .int x6, .int (r_X11_ofMove x1 x2 (nI 0) h), .int (((gI h 60 0) - (nI 1)) - (r_X11_ofMove x1 x2 (nI 1) h)), .int (r_X11_ofMove x1 x2 (nI 2) h), un, un]) (pc' := 87) iX11_moves_85 rfl (Nat.le_of_ble_eq_true rfl) rfl ?_
      refine At_aload_n (pc' := 88) iX11_moves_87 rfl rfl ?_
      refine At_getR (pc' := 91) iX11_moves_88 rfl f_11_7 (kdK eT (kd_59 hL)) (by decide) (rfH eT (rf_59_0 hL)) ?_
      refine At_iconst (v := nI 0) (pc' := 92) iX11_moves_91 rfl (by decide) ?_
      refine At_iald (pc' := 93) iX11_moves_92 rfl (kdH eT (kd_60 hL)) (by decide) (show At (d + 2) MX11_moves 93 [.ref 59, .int x1, .int x2, .int x3, .int x4, .int x5, .int x6, .int (r_X11_ofMove x1 x2 (nI 0) h), .int (((gI h 60 0) - (nI 1)) - (r_X11_ofMove x1 x2 (nI 1) h)), .int (r_X11_ofMove x1 x2 (nI 2) h), un, un] [.int (gI h 60 0)] h Q from ?_)
      refine At_iconst (v := nI 1) (pc' := 94) iX11_moves_93 rfl (by decide) ?_
      refine At_isub (pc' := 95) iX11_moves_94 rfl ?_
      refine At_iload (pc' := 97) iX11_moves_95 rfl rfl ?_
      refine At_isub (pc' := 98) iX11_moves_97 rfl ?_
      refine At_istore (L' := [.ref 59, .int x1, .int x2, .int x3, .int x4, .int x5, .int x6, .int (r_X11_ofMove x1 x2 (nI 0) h), .int (((gI h 60 0) - (nI 1)) - (r_X11_ofMove x1 x2 (nI 1) h)), .int (((gI h 60 0) - (nI 1)) - (r_X11_ofMove x1 x2 (nI 2) h)), un, un]) (pc' := 100) iX11_moves_98 rfl (Nat.le_of_ble_eq_true rfl) rfl ?_
      exact hv _ _ _
  · have hv := hv.1 c21
    refine At_aload_n (pc' := 25) iX11_moves_24 rfl rfl ?_
    refine At_getR (pc' := 28) iX11_moves_25 rfl f_11_7 (kdK eT (kd_59 hL)) (by decide) (rfH eT (rf_59_0 hL)) ?_
    refine At_iconst (v := nI 0) (pc' := 29) iX11_moves_28 rfl (by decide) ?_
    refine At_iald (pc' := 30) iX11_moves_29 rfl (kdH eT (kd_60 hL)) (by decide) (show At (d + 2) MX11_moves 30 [.ref 59, .int x1, .int x2, .int x3, .int x4, .int x5, .int x6, .int (r_X11_ofMove x1 x2 (nI 0) h), .int (r_X11_ofMove x1 x2 (nI 1) h), un, un, un] [.int (gI h 60 0)] h Q from ?_)
    refine At_istore (L' := [.ref 59, .int x1, .int x2, .int x3, .int x4, .int x5, .int x6, .int (r_X11_ofMove x1 x2 (nI 0) h), .int (r_X11_ofMove x1 x2 (nI 1) h), .int (gI h 60 0), un, un]) (pc' := 32) iX11_moves_30 rfl (Nat.le_of_ble_eq_true rfl) rfl ?_
    refine At_aload_n (pc' := 33) iX11_moves_32 rfl rfl ?_
    refine At_iload_n (pc' := 34) iX11_moves_33 rfl rfl ?_
    refine At_if_eq (t := 51) (pc' := 37) iX11_moves_34 (by decide) rfl (fun c34 => ?_) (fun c34 => ?_)
    · have hv := hv.1 c34
      refine At_iload (pc' := 53) iX11_moves_51 rfl rfl ?_
      refine At_iload (pc' := 55) iX11_moves_53 rfl rfl ?_
      obtain ⟨hn4, hv⟩ := hv
      refine At_irem (pc' := 56) iX11_moves_55 rfl hn4 ?_
      refine At_virt (pc' := 59) iX11_moves_56 rfl m_11_189 rfl rfl (kdK eT (kd_59 hL)) (Nat.le_of_ble_eq_true rfl) (Nat.le_of_ble_eq_true rfl) ?_
      refine At.mono (show CallV (d + 1) MX11_turns [.ref 59, .int (irem (r_X11_ofMove x1 x2 (nI 1) h) (gI h 60 0))] h _ from hv) ?_
      rintro _ h56 ⟨rfl, eT56, hv⟩
      show At (d + 2) MX11_moves 59 [.ref 59, .int x1, .int x2, .int x3, .int x4, .int x5, .int x6, .int (r_X11_ofMove x1 x2 (nI 0) h), .int (r_X11_ofMove x1 x2 (nI 1) h), .int (gI h 60 0), un, un] [] h56 Q
      refine At_iconst (v := (-1)) (pc' := 60) iX11_moves_59 rfl (by decide) ?_
      exact At_retI iX11_moves_60 rfl hv
    · have hv := hv.2 c34
      refine At_iload (pc' := 39) iX11_moves_37 rfl rfl ?_
      refine At_iload (pc' := 41) iX11_moves_39 rfl rfl ?_
      refine At_iload (pc' := 43) iX11_moves_41 rfl rfl ?_
      obtain ⟨hn5, hv⟩ := hv
      refine At_irem (pc' := 44) iX11_moves_43 rfl hn5 ?_
      refine At_isub (pc' := 45) iX11_moves_44 rfl ?_
      refine At_iload (pc' := 47) iX11_moves_45 rfl rfl ?_
      obtain ⟨hn6, hv⟩ := hv
      refine At_irem (pc' := 48) iX11_moves_47 rfl hn6 ?_
      refine At_goto (t := 56) iX11_moves_48 (by decide) ?_
      refine At_virt (pc' := 59) iX11_moves_56 rfl m_11_189 rfl rfl (kdK eT (kd_59 hL)) (Nat.le_of_ble_eq_true rfl) (Nat.le_of_ble_eq_true rfl) ?_
      refine At.mono (show CallV (d + 1) MX11_turns [.ref 59, .int (irem ((gI h 60 0) - (irem (r_X11_ofMove x1 x2 (nI 1) h) (gI h 60 0))) (gI h 60 0))] h _ from hv) ?_
      rintro _ h56 ⟨rfl, eT56, hv⟩
      show At (d + 2) MX11_moves 59 [.ref 59, .int x1, .int x2, .int x3, .int x4, .int x5, .int x6, .int (r_X11_ofMove x1 x2 (nI 0) h), .int (r_X11_ofMove x1 x2 (nI 1) h), .int (gI h 60 0), un, un] [] h56 Q
      refine At_iconst (v := (-1)) (pc' := 60) iX11_moves_59 rfl (by decide) ?_
      exact At_retI iX11_moves_60 rfl hv
set_option maxRecDepth 20000 in
theorem b_X11_moves_100 {d : Nat} {T : HT} (hL : Lay T) {h : Hp} (eT : h.2.2 = T) (x1 : Int32) (x2 : Int32) (x4 : Int32) (x5 : Int32) (x6 : Int32) (x7 : Int32) (x8 : Int32) (x9 : Int32)  {Q : Option Value → Hp → Prop} (hv : (inB x8 16 = true) ∧ ((p_X11_ofMove x1 x2 (nI 3) h) ∧ ((((gI h 65 x8.toNatClampNeg) = x5) → (Q (some (.int (-1))) h)) ∧ (¬ ((gI h 65 x8.toNatClampNeg) = x5) → (((x4 = 0) → (L_X11_moves_153 d x6 x7 x8 x9 (gI h 65 x8.toNatClampNeg) h Q)) ∧ (¬ (x4 = 0) → ((((r_X11_ofMove x1 x2 (nI 3) h) = (-1)) → (L_X11_moves_153 d x6 x7 x8 x9 (gI h 65 x8.toNatClampNeg) h Q)) ∧ (¬ ((r_X11_ofMove x1 x2 (nI 3) h) = (-1)) → ((inB ((nI 10) + (gI h 65 x8.toNatClampNeg)) 4180 = true) ∧ ((((gI h 60 (((nI 10) + (gI h 65 x8.toNatClampNeg)).toNatClampNeg)) = (r_X11_ofMove x1 x2 (nI 3) h)) → (L_X11_moves_153 d x6 x7 x8 x9 (gI h 65 x8.toNatClampNeg) h Q)) ∧ (¬ ((gI h 60 (((nI 10) + (gI h 65 x8.toNatClampNeg)).toNatClampNeg)) = (r_X11_ofMove x1 x2 (nI 3) h)) → (Q (some (.int (-1))) h)))))))))))) : L_X11_moves_100 d x1 x2 x4 x5 x6 x7 x8 x9 h Q := by
  intro v3 v10 v11
  refine At_aload_n (pc' := 101) iX11_moves_100 rfl rfl ?_
  refine At_getR (pc' := 104) iX11_moves_101 rfl f_11_29 (kdK eT (kd_59 hL)) (by decide) (rfH eT (rf_59_17 hL)) ?_
  refine At_iload (pc' := 106) iX11_moves_104 rfl rfl ?_
  obtain ⟨hn1, hv⟩ := hv
  refine At_iald (pc' := 107) iX11_moves_106 rfl (kdH eT (kd_65 hL)) hn1 (show At (d + 2) MX11_moves 107 [.ref 59, .int x1, .int x2, v3, .int x4, .int x5, .int x6, .int x7, .int x8, .int x9, v10, v11] [.int (gI h 65 x8.toNatClampNeg)] h Q from ?_)
  refine At_istore (L' := [.ref 59, .int x1, .int x2, v3, .int x4, .int x5, .int x6, .int x7, .int x8, .int x9, .int (gI h 65 x8.toNatClampNeg), v11]) (pc' := 109) iX11_moves_107 rfl (Nat.le_of_ble_eq_true rfl) rfl ?_
  refine At_aload_n (pc' := 110) iX11_moves_109 rfl rfl ?_
  refine At_iload_n (pc' := 111) iX11_moves_110 rfl rfl ?_
  refine At_iload_n (pc' := 112) iX11_moves_111 rfl rfl ?_
  refine At_iconst (v := nI 3) (pc' := 113) iX11_moves_112 rfl (by decide) ?_
  refine At_virt (pc' := 116) iX11_moves_113 rfl m_11_185 rfl rfl (kdK eT (kd_59 hL)) (Nat.le_of_ble_eq_true rfl) (Nat.le_of_ble_eq_true rfl) ?_
  obtain ⟨hn2, hv⟩ := hv
  refine c_X11_ofMove (h := h) hL eT x1 x2 (nI 3)  hn2 (show At (d + 2) MX11_moves 116 [.ref 59, .int x1, .int x2, v3, .int x4, .int x5, .int x6, .int x7, .int x8, .int x9, .int (gI h 65 x8.toNatClampNeg), v11] [.int (r_X11_ofMove x1 x2 (nI 3) h)] h Q from ?_)
  refine At_istore (L' := [.ref 59, .int x1, .int x2, v3, .int x4, .int x5, .int x6, .int x7, .int x8, .int x9, .int (gI h 65 x8.toNatClampNeg), .int (r_X11_ofMove x1 x2 (nI 3) h)]) (pc' := 118) iX11_moves_116 rfl (Nat.le_of_ble_eq_true rfl) rfl ?_
  refine At_iload (pc' := 120) iX11_moves_118 rfl rfl ?_
  refine At_iload (pc' := 122) iX11_moves_120 rfl rfl ?_
  refine At_icmp_eq (t := 151) (pc' := 125) iX11_moves_122 (by decide) rfl (fun c122 => ?_) (fun c122 => ?_)
  · have hv := hv.1 c122
    refine At_iconst (v := (-1)) (pc' := 152) iX11_moves_151 rfl (by decide) ?_
    exact At_retI iX11_moves_152 rfl hv
  · have hv := hv.2 c122
    refine At_iload (pc' := 127) iX11_moves_125 rfl rfl ?_
    refine At_if_eq (t := 153) (pc' := 130) iX11_moves_127 (by decide) rfl (fun c127 => ?_) (fun c127 => ?_)
    · have hv := hv.1 c127
      exact hv _ _ _ _ _ _
    · have hv := hv.2 c127
      refine At_iload (pc' := 132) iX11_moves_130 rfl rfl ?_
      refine At_iconst (v := (-1)) (pc' := 133) iX11_moves_132 rfl (by decide) ?_
      refine At_icmp_eq (t := 153) (pc' := 136) iX11_moves_133 (by decide) rfl (fun c133 => ?_) (fun c133 => ?_)
      · have hv := hv.1 c133
        exact hv _ _ _ _ _ _
      · have hv := hv.2 c133
        refine At_aload_n (pc' := 137) iX11_moves_136 rfl rfl ?_
        refine At_getR (pc' := 140) iX11_moves_137 rfl f_11_7 (kdK eT (kd_59 hL)) (by decide) (rfH eT (rf_59_0 hL)) ?_
        refine At_bipush (v := nI 10) (pc' := 142) iX11_moves_140 rfl (by decide) ?_
        refine At_iload (pc' := 144) iX11_moves_142 rfl rfl ?_
        refine At_iadd (pc' := 145) iX11_moves_144 rfl ?_
        obtain ⟨hn3, hv⟩ := hv
        refine At_iald (pc' := 146) iX11_moves_145 rfl (kdH eT (kd_60 hL)) hn3 (show At (d + 2) MX11_moves 146 [.ref 59, .int x1, .int x2, v3, .int x4, .int x5, .int x6, .int x7, .int x8, .int x9, .int (gI h 65 x8.toNatClampNeg), .int (r_X11_ofMove x1 x2 (nI 3) h)] [.int (gI h 60 (((nI 10) + (gI h 65 x8.toNatClampNeg)).toNatClampNeg))] h Q from ?_)
        refine At_iload (pc' := 148) iX11_moves_146 rfl rfl ?_
        refine At_icmp_eq (t := 153) (pc' := 151) iX11_moves_148 (by decide) rfl (fun c148 => ?_) (fun c148 => ?_)
        · have hv := hv.1 c148
          exact hv _ _ _ _ _ _
        · have hv := hv.2 c148
          refine At_iconst (v := (-1)) (pc' := 152) iX11_moves_151 rfl (by decide) ?_
          exact At_retI iX11_moves_152 rfl hv
set_option maxRecDepth 20000 in
theorem b_X11_moves_153 {d : Nat} {T : HT} (hL : Lay T) {h : Hp} (eT : h.2.2 = T) (x6 : Int32) (x7 : Int32) (x8 : Int32) (x9 : Int32) (x10 : Int32)  {Q : Option Value → Hp → Prop} (hv : ((x7 = 0) → (CallV (d + 1) MX11_lifts [.ref 59, .int x8, .int x9, .int x6] h (fun h165 => h165.2.2 = T ∧ (Q (some (.int x10)) h165)))) ∧ (¬ (x7 = 0) → ((p_X11_swaps x8 x9 x6 h) ∧ (Q (some (.int x10)) (w_X11_swaps x8 x9 x6 h))))) : L_X11_moves_153 d x6 x7 x8 x9 x10 h Q := by
  intro v1 v2 v3 v4 v5 v11
  refine At_iload (pc' := 155) iX11_moves_153 rfl rfl ?_
  refine At_if_ne (t := 171) (pc' := 158) iX11_moves_155 (by decide) rfl (fun c155 => ?_) (fun c155 => ?_)
  · have hv := hv.2 c155
    refine At_aload_n (pc' := 172) iX11_moves_171 rfl rfl ?_
    refine At_iload (pc' := 174) iX11_moves_172 rfl rfl ?_
    refine At_iload (pc' := 176) iX11_moves_174 rfl rfl ?_
    refine At_iload (pc' := 178) iX11_moves_176 rfl rfl ?_
    refine At_virt (pc' := 181) iX11_moves_178 rfl m_11_195 rfl rfl (kdK eT (kd_59 hL)) (Nat.le_of_ble_eq_true rfl) (Nat.le_of_ble_eq_true rfl) ?_
    obtain ⟨hn1, hv⟩ := hv
    refine c_X11_swaps (h := h) hL eT x8 x9 x6  hn1 (show At (d + 2) MX11_moves 181 [.ref 59, v1, v2, v3, v4, v5, .int x6, .int x7, .int x8, .int x9, .int x10, v11] [] (w_X11_swaps x8 x9 x6 h) Q from ?_)
    refine At_iload (pc' := 183) iX11_moves_181 rfl rfl ?_
    exact At_retI iX11_moves_183 rfl hv
  · have hv := hv.1 c155
    refine At_aload_n (pc' := 159) iX11_moves_158 rfl rfl ?_
    refine At_iload (pc' := 161) iX11_moves_159 rfl rfl ?_
    refine At_iload (pc' := 163) iX11_moves_161 rfl rfl ?_
    refine At_iload (pc' := 165) iX11_moves_163 rfl rfl ?_
    refine At_virt (pc' := 168) iX11_moves_165 rfl m_11_192 rfl rfl (kdK eT (kd_59 hL)) (Nat.le_of_ble_eq_true rfl) (Nat.le_of_ble_eq_true rfl) ?_
    refine At.mono (show CallV (d + 1) MX11_lifts [.ref 59, .int x8, .int x9, .int x6] h _ from hv) ?_
    rintro _ h165 ⟨rfl, eT165, hv⟩
    show At (d + 2) MX11_moves 168 [.ref 59, v1, v2, v3, v4, v5, .int x6, .int x7, .int x8, .int x9, .int x10, v11] [] h165 Q
    refine At_goto (t := 181) iX11_moves_168 (by decide) ?_
    refine At_iload (pc' := 183) iX11_moves_181 rfl rfl ?_
    exact At_retI iX11_moves_183 rfl hv
-- X11_next0 (loop)
def L_X11_next0_0 (d : Nat)  (h : Hp) (Q : Option Value → Hp → Prop) : Prop := ∀ v1 v2 : Value, At (d + 2) MX11_next0 0 [.ref 59, v1, v2] [] h Q
def L_X11_next0_126 (d : Nat)  (h : Hp) (Q : Option Value → Hp → Prop) : Prop := ∀ v1 v2 : Value, At (d + 2) MX11_next0 126 [.ref 59, v1, v2] [] h Q
def L_X11_next0_76 (d : Nat)  (h : Hp) (Q : Option Value → Hp → Prop) : Prop := ∀ v1 v2 : Value, At (d + 2) MX11_next0 76 [.ref 59, v1, v2] [] h Q
set_option maxRecDepth 20000 in
theorem b_X11_next0 {d : Nat} {T : HT} (hL : Lay T) {h : Hp} (eT : h.2.2 = T)   {Q : Option Value → Hp → Prop} (hv : (p_X11_see (gI h 59 9) h) ∧ ((((r_X11_see (gI h 59 9) h) = (nI 32)) → (L_X11_next0_0 d  (sI h 59 9 ((gI h 59 9) + (nI 1))) Q)) ∧ (¬ ((r_X11_see (gI h 59 9) h) = (nI 32)) → ((p_X11_see (gI h 59 9) h) ∧ ((((r_X11_see (gI h 59 9) h) = (nI 10)) → (L_X11_next0_0 d  (sI h 59 9 ((gI h 59 9) + (nI 1))) Q)) ∧ (¬ ((r_X11_see (gI h 59 9) h) = (nI 10)) → ((p_X11_see (gI (sI h 59 11 (gI h 59 9)) 59 9) (sI h 59 11 (gI h 59 9))) ∧ ((((r_X11_see (gI (sI h 59 11 (gI h 59 9)) 59 9) (sI h 59 11 (gI h 59 9))) = (-1)) → (Q none (sI (sI h 59 11 (gI h 59 9)) 59 10 (nI 0)))) ∧ (¬ ((r_X11_see (gI (sI h 59 11 (gI h 59 9)) 59 9) (sI h 59 11 (gI h 59 9))) = (-1)) → ((((r_X11_isLetter (r_X11_see (gI (sI h 59 11 (gI h 59 9)) 59 9) (sI h 59 11 (gI h 59 9)))) = true) → (L_X11_next0_76 d  (sI h 59 11 (gI h 59 9)) Q)) ∧ (¬ ((r_X11_isLetter (r_X11_see (gI (sI h 59 11 (gI h 59 9)) 59 9) (sI h 59 11 (gI h 59 9)))) = true) → ((((r_X11_isDigit (r_X11_see (gI (sI h 59 11 (gI h 59 9)) 59 9) (sI h 59 11 (gI h 59 9)))) = true) → (L_X11_next0_126 d  (sI (sI h 59 11 (gI h 59 9)) 59 12 (nI 0)) Q)) ∧ (¬ ((r_X11_isDigit (r_X11_see (gI (sI h 59 11 (gI h 59 9)) 59 9) (sI h 59 11 (gI h 59 9)))) = true) → ((((r_X11_see (gI (sI h 59 11 (gI h 59 9)) 59 9) (sI h 59 11 (gI h 59 9))) = (nI 59)) → (Q none (sI (sI (sI h 59 11 (gI h 59 9)) 59 9 ((gI (sI h 59 11 (gI h 59 9)) 59 9) + (nI 1))) 59 10 ((nI 100) + (r_X11_see (gI (sI h 59 11 (gI h 59 9)) 59 9) (sI h 59 11 (gI h 59 9))))))) ∧ (¬ ((r_X11_see (gI (sI h 59 11 (gI h 59 9)) 59 9) (sI h 59 11 (gI h 59 9))) = (nI 59)) → ((((r_X11_see (gI (sI h 59 11 (gI h 59 9)) 59 9) (sI h 59 11 (gI h 59 9))) = (nI 40)) → (Q none (sI (sI (sI h 59 11 (gI h 59 9)) 59 9 ((gI (sI h 59 11 (gI h 59 9)) 59 9) + (nI 1))) 59 10 ((nI 100) + (r_X11_see (gI (sI h 59 11 (gI h 59 9)) 59 9) (sI h 59 11 (gI h 59 9))))))) ∧ (¬ ((r_X11_see (gI (sI h 59 11 (gI h 59 9)) 59 9) (sI h 59 11 (gI h 59 9))) = (nI 40)) → ((((r_X11_see (gI (sI h 59 11 (gI h 59 9)) 59 9) (sI h 59 11 (gI h 59 9))) = (nI 41)) → (Q none (sI (sI (sI h 59 11 (gI h 59 9)) 59 9 ((gI (sI h 59 11 (gI h 59 9)) 59 9) + (nI 1))) 59 10 ((nI 100) + (r_X11_see (gI (sI h 59 11 (gI h 59 9)) 59 9) (sI h 59 11 (gI h 59 9))))))) ∧ (¬ ((r_X11_see (gI (sI h 59 11 (gI h 59 9)) 59 9) (sI h 59 11 (gI h 59 9))) = (nI 41)) → (Q none (sI (sI (sI h 59 11 (gI h 59 9)) 59 9 ((gI (sI h 59 11 (gI h 59 9)) 59 9) + (nI 1))) 59 10 (nI 1)))))))))))))))))))))) : Call (d + 2) MX11_next0 [.ref 59] h Q := by
  show At (d + 2) MX11_next0 0 [.ref 59, un, un] [] h Q
  refine At_aload_n (pc' := 1) iX11_next0_0 rfl rfl ?_
  refine At_aload_n (pc' := 2) iX11_next0_1 rfl rfl ?_
  refine At_getI (pc' := 5) iX11_next0_2 rfl f_11_85 (kdK eT (kd_59 hL)) (by decide) ?_
  refine At_virt (pc' := 8) iX11_next0_5 rfl m_11_117 rfl rfl (kdK eT (kd_59 hL)) (Nat.le_of_ble_eq_true rfl) (Nat.le_of_ble_eq_true rfl) ?_
  obtain ⟨hn1, hv⟩ := hv
  refine c_X11_see (h := h) hL eT (gI h 59 9)  hn1 (show At (d + 2) MX11_next0 8 [.ref 59, un, un] [.int (r_X11_see (gI h 59 9) h)] h Q from ?_)
  refine At_bipush (v := nI 32) (pc' := 10) iX11_next0_8 rfl (by decide) ?_
  refine At_icmp_eq (t := 26) (pc' := 13) iX11_next0_10 (by decide) rfl (fun c10 => ?_) (fun c10 => ?_)
  · have hv := hv.1 c10
    refine At_aload_n (pc' := 27) iX11_next0_26 rfl rfl ?_
    refine At_dup (pc' := 28) iX11_next0_27 rfl rfl ?_
    refine At_getI (pc' := 31) iX11_next0_28 rfl f_11_85 (kdK eT (kd_59 hL)) (by decide) ?_
    refine At_iconst (v := nI 1) (pc' := 32) iX11_next0_31 rfl (by decide) ?_
    refine At_iadd (pc' := 33) iX11_next0_32 rfl ?_
    refine At_putI (pc' := 36) iX11_next0_33 rfl f_11_85 (kdK eT (kd_59 hL)) (Or.inl rfl) (by decide) ?_
    refine At_goto (t := 0) iX11_next0_36 (by decide) ?_
    exact hv _ _
  · have hv := hv.2 c10
    refine At_aload_n (pc' := 14) iX11_next0_13 rfl rfl ?_
    refine At_aload_n (pc' := 15) iX11_next0_14 rfl rfl ?_
    refine At_getI (pc' := 18) iX11_next0_15 rfl f_11_85 (kdK eT (kd_59 hL)) (by decide) ?_
    refine At_virt (pc' := 21) iX11_next0_18 rfl m_11_117 rfl rfl (kdK eT (kd_59 hL)) (Nat.le_of_ble_eq_true rfl) (Nat.le_of_ble_eq_true rfl) ?_
    obtain ⟨hn2, hv⟩ := hv
    refine c_X11_see (h := h) hL eT (gI h 59 9)  hn2 (show At (d + 2) MX11_next0 21 [.ref 59, un, un] [.int (r_X11_see (gI h 59 9) h)] h Q from ?_)
    refine At_bipush (v := nI 10) (pc' := 23) iX11_next0_21 rfl (by decide) ?_
    refine At_icmp_ne (t := 39) (pc' := 26) iX11_next0_23 (by decide) rfl (fun c23 => ?_) (fun c23 => ?_)
    · have hv := hv.2 c23
      refine At_aload_n (pc' := 40) iX11_next0_39 rfl rfl ?_
      refine At_aload_n (pc' := 41) iX11_next0_40 rfl rfl ?_
      refine At_getI (pc' := 44) iX11_next0_41 rfl f_11_85 (kdK eT (kd_59 hL)) (by decide) ?_
      refine At_putI (pc' := 47) iX11_next0_44 rfl f_11_88 (kdK eT (kd_59 hL)) (Or.inl rfl) (by decide) ?_
      refine At_aload_n (pc' := 48) iX11_next0_47 rfl rfl ?_
      refine At_aload_n (pc' := 49) iX11_next0_48 rfl rfl ?_
      refine At_getI (pc' := 52) iX11_next0_49 rfl f_11_85 (kdK eT (kd_59 hL)) (by decide) ?_
      refine At_virt (pc' := 55) iX11_next0_52 rfl m_11_117 rfl rfl (kdK eT (kd_59 hL)) (Nat.le_of_ble_eq_true rfl) (Nat.le_of_ble_eq_true rfl) ?_
      obtain ⟨hn3, hv⟩ := hv
      refine c_X11_see (h := sI h 59 11 (gI h 59 9)) hL eT (gI (sI h 59 11 (gI h 59 9)) 59 9)  hn3 (show At (d + 2) MX11_next0 55 [.ref 59, un, un] [.int (r_X11_see (gI (sI h 59 11 (gI h 59 9)) 59 9) (sI h 59 11 (gI h 59 9)))] (sI h 59 11 (gI h 59 9)) Q from ?_)
      refine At_istore_n (L' := [.ref 59, .int (r_X11_see (gI (sI h 59 11 (gI h 59 9)) 59 9) (sI h 59 11 (gI h 59 9))), un]) (pc' := 56) iX11_next0_55 rfl (Nat.le_of_ble_eq_true rfl) rfl ?_
      refine At_iload_n (pc' := 57) iX11_next0_56 rfl rfl ?_
      refine At_iconst (v := (-1)) (pc' := 58) iX11_next0_57 rfl (by decide) ?_
      refine At_icmp_ne (t := 69) (pc' := 61) iX11_next0_58 (by decide) rfl (fun c58 => ?_) (fun c58 => ?_)
      · have hv := hv.2 c58
        refine At_iload_n (pc' := 70) iX11_next0_69 rfl rfl ?_
        refine At_stat (pc' := 73) iX11_next0_70 rfl m_11_124 rfl rfl (Nat.le_of_ble_eq_true rfl) (Nat.le_of_ble_eq_true rfl) (Nat.le_of_ble_eq_true rfl) ?_
        refine c_X11_isLetter (h := sI h 59 11 (gI h 59 9)) (r_X11_see (gI (sI h 59 11 (gI h 59 9)) 59 9) (sI h 59 11 (gI h 59 9)))   (show At (d + 2) MX11_next0 73 [.ref 59, .int (r_X11_see (gI (sI h 59 11 (gI h 59 9)) 59 9) (sI h 59 11 (gI h 59 9))), un] [.int (b2i (r_X11_isLetter (r_X11_see (gI (sI h 59 11 (gI h 59 9)) 59 9) (sI h 59 11 (gI h 59 9)))))] (sI h 59 11 (gI h 59 9)) Q from ?_)
        refine At_zeq (t := 114) (pc' := 76) iX11_next0_73 (by decide) rfl (fun c73 => ?_) (fun c73 => ?_)
        · have hv := hv.2 c73
          refine At_iload_n (pc' := 115) iX11_next0_114 rfl rfl ?_
          refine At_stat (pc' := 118) iX11_next0_115 rfl m_11_130 rfl rfl (Nat.le_of_ble_eq_true rfl) (Nat.le_of_ble_eq_true rfl) (Nat.le_of_ble_eq_true rfl) ?_
          refine c_X11_isDigit (h := sI h 59 11 (gI h 59 9)) (r_X11_see (gI (sI h 59 11 (gI h 59 9)) 59 9) (sI h 59 11 (gI h 59 9)))   (show At (d + 2) MX11_next0 118 [.ref 59, .int (r_X11_see (gI (sI h 59 11 (gI h 59 9)) 59 9) (sI h 59 11 (gI h 59 9))), un] [.int (b2i (r_X11_isDigit (r_X11_see (gI (sI h 59 11 (gI h 59 9)) 59 9) (sI h 59 11 (gI h 59 9)))))] (sI h 59 11 (gI h 59 9)) Q from ?_)
          refine At_zeq (t := 214) (pc' := 121) iX11_next0_118 (by decide) rfl (fun c118 => ?_) (fun c118 => ?_)
          · have hv := hv.2 c118
            refine At_aload_n (pc' := 215) iX11_next0_214 rfl rfl ?_
            refine At_dup (pc' := 216) iX11_next0_215 rfl rfl ?_
            refine At_getI (pc' := 219) iX11_next0_216 rfl f_11_85 (kdK eT (kd_59 hL)) (by decide) ?_
            refine At_iconst (v := nI 1) (pc' := 220) iX11_next0_219 rfl (by decide) ?_
            refine At_iadd (pc' := 221) iX11_next0_220 rfl ?_
            refine At_putI (pc' := 224) iX11_next0_221 rfl f_11_85 (kdK eT (kd_59 hL)) (Or.inl rfl) (by decide) ?_
            refine At_iload_n (pc' := 225) iX11_next0_224 rfl rfl ?_
            refine At_bipush (v := nI 59) (pc' := 227) iX11_next0_225 rfl (by decide) ?_
            refine At_icmp_eq (t := 242) (pc' := 230) iX11_next0_227 (by decide) rfl (fun c227 => ?_) (fun c227 => ?_)
            · have hv := hv.1 c227
              refine At_iconst (v := nI 1) (pc' := 243) iX11_next0_242 rfl (by decide) ?_
              refine At_goto (t := 247) iX11_next0_243 (by decide) ?_
              refine At_istore_n (L' := [.ref 59, .int (r_X11_see (gI (sI h 59 11 (gI h 59 9)) 59 9) (sI h 59 11 (gI h 59 9))), .int (nI 1)]) (pc' := 248) iX11_next0_247 rfl (Nat.le_of_ble_eq_true rfl) rfl ?_
              refine At_aload_n (pc' := 249) iX11_next0_248 rfl rfl ?_
              refine At_iload_n (pc' := 250) iX11_next0_249 rfl rfl ?_
              refine At_if_eq (t := 260) (pc' := 253) iX11_next0_250 (by decide) rfl (fun c250 => absurd c250 (by decide)) (fun c250 => ?_)
              refine At_bipush (v := nI 100) (pc' := 255) iX11_next0_253 rfl (by decide) ?_
              refine At_iload_n (pc' := 256) iX11_next0_255 rfl rfl ?_
              refine At_iadd (pc' := 257) iX11_next0_256 rfl ?_
              refine At_goto (t := 261) iX11_next0_257 (by decide) ?_
              refine At_putI (pc' := 264) iX11_next0_261 rfl f_11_121 (kdK eT (kd_59 hL)) (Or.inl rfl) (by decide) ?_
              exact At_retV iX11_next0_264 rfl hv
            · have hv := hv.2 c227
              refine At_iload_n (pc' := 231) iX11_next0_230 rfl rfl ?_
              refine At_bipush (v := nI 40) (pc' := 233) iX11_next0_231 rfl (by decide) ?_
              refine At_icmp_eq (t := 242) (pc' := 236) iX11_next0_233 (by decide) rfl (fun c233 => ?_) (fun c233 => ?_)
              · have hv := hv.1 c233
                refine At_iconst (v := nI 1) (pc' := 243) iX11_next0_242 rfl (by decide) ?_
                refine At_goto (t := 247) iX11_next0_243 (by decide) ?_
                refine At_istore_n (L' := [.ref 59, .int (r_X11_see (gI (sI h 59 11 (gI h 59 9)) 59 9) (sI h 59 11 (gI h 59 9))), .int (nI 1)]) (pc' := 248) iX11_next0_247 rfl (Nat.le_of_ble_eq_true rfl) rfl ?_
                refine At_aload_n (pc' := 249) iX11_next0_248 rfl rfl ?_
                refine At_iload_n (pc' := 250) iX11_next0_249 rfl rfl ?_
                refine At_if_eq (t := 260) (pc' := 253) iX11_next0_250 (by decide) rfl (fun c250 => absurd c250 (by decide)) (fun c250 => ?_)
                refine At_bipush (v := nI 100) (pc' := 255) iX11_next0_253 rfl (by decide) ?_
                refine At_iload_n (pc' := 256) iX11_next0_255 rfl rfl ?_
                refine At_iadd (pc' := 257) iX11_next0_256 rfl ?_
                refine At_goto (t := 261) iX11_next0_257 (by decide) ?_
                refine At_putI (pc' := 264) iX11_next0_261 rfl f_11_121 (kdK eT (kd_59 hL)) (Or.inl rfl) (by decide) ?_
                exact At_retV iX11_next0_264 rfl hv
              · have hv := hv.2 c233
                refine At_iload_n (pc' := 237) iX11_next0_236 rfl rfl ?_
                refine At_bipush (v := nI 41) (pc' := 239) iX11_next0_237 rfl (by decide) ?_
                refine At_icmp_ne (t := 246) (pc' := 242) iX11_next0_239 (by decide) rfl (fun c239 => ?_) (fun c239 => ?_)
                · have hv := hv.2 c239
                  refine At_iconst (v := nI 0) (pc' := 247) iX11_next0_246 rfl (by decide) ?_
                  refine At_istore_n (L' := [.ref 59, .int (r_X11_see (gI (sI h 59 11 (gI h 59 9)) 59 9) (sI h 59 11 (gI h 59 9))), .int (nI 0)]) (pc' := 248) iX11_next0_247 rfl (Nat.le_of_ble_eq_true rfl) rfl ?_
                  refine At_aload_n (pc' := 249) iX11_next0_248 rfl rfl ?_
                  refine At_iload_n (pc' := 250) iX11_next0_249 rfl rfl ?_
                  refine At_if_eq (t := 260) (pc' := 253) iX11_next0_250 (by decide) rfl (fun c250 => ?_) (fun c250 => absurd c250 (by decide))
                  refine At_iconst (v := nI 1) (pc' := 261) iX11_next0_260 rfl (by decide) ?_
                  refine At_putI (pc' := 264) iX11_next0_261 rfl f_11_121 (kdK eT (kd_59 hL)) (Or.inl rfl) (by decide) ?_
                  exact At_retV iX11_next0_264 rfl hv
                · have hv := hv.1 c239
                  refine At_iconst (v := nI 1) (pc' := 243) iX11_next0_242 rfl (by decide) ?_
                  refine At_goto (t := 247) iX11_next0_243 (by decide) ?_
                  refine At_istore_n (L' := [.ref 59, .int (r_X11_see (gI (sI h 59 11 (gI h 59 9)) 59 9) (sI h 59 11 (gI h 59 9))), .int (nI 1)]) (pc' := 248) iX11_next0_247 rfl (Nat.le_of_ble_eq_true rfl) rfl ?_
                  refine At_aload_n (pc' := 249) iX11_next0_248 rfl rfl ?_
                  refine At_iload_n (pc' := 250) iX11_next0_249 rfl rfl ?_
                  refine At_if_eq (t := 260) (pc' := 253) iX11_next0_250 (by decide) rfl (fun c250 => absurd c250 (by decide)) (fun c250 => ?_)
                  refine At_bipush (v := nI 100) (pc' := 255) iX11_next0_253 rfl (by decide) ?_
                  refine At_iload_n (pc' := 256) iX11_next0_255 rfl rfl ?_
                  refine At_iadd (pc' := 257) iX11_next0_256 rfl ?_
                  refine At_goto (t := 261) iX11_next0_257 (by decide) ?_
                  refine At_putI (pc' := 264) iX11_next0_261 rfl f_11_121 (kdK eT (kd_59 hL)) (Or.inl rfl) (by decide) ?_
                  exact At_retV iX11_next0_264 rfl hv
          · have hv := hv.1 c118
            refine At_aload_n (pc' := 122) iX11_next0_121 rfl rfl ?_
            refine At_iconst (v := nI 0) (pc' := 123) iX11_next0_122 rfl (by decide) ?_
            refine At_putI (pc' := 126) iX11_next0_123 rfl f_11_133 (kdK eT (kd_59 hL)) (Or.inl rfl) (by decide) ?_
            exact hv _ _
        · have hv := hv.1 c73
          exact hv _ _
      · have hv := hv.1 c58
        refine At_aload_n (pc' := 62) iX11_next0_61 rfl rfl ?_
        refine At_iconst (v := nI 0) (pc' := 63) iX11_next0_62 rfl (by decide) ?_
        refine At_putI (pc' := 66) iX11_next0_63 rfl f_11_121 (kdK eT (kd_59 hL)) (Or.inl rfl) (by decide) ?_
        refine At_goto (t := 264) iX11_next0_66 (by decide) ?_
        exact At_retV iX11_next0_264 rfl hv
    · have hv := hv.1 c23
      refine At_aload_n (pc' := 27) iX11_next0_26 rfl rfl ?_
      refine At_dup (pc' := 28) iX11_next0_27 rfl rfl ?_
      refine At_getI (pc' := 31) iX11_next0_28 rfl f_11_85 (kdK eT (kd_59 hL)) (by decide) ?_
      refine At_iconst (v := nI 1) (pc' := 32) iX11_next0_31 rfl (by decide) ?_
      refine At_iadd (pc' := 33) iX11_next0_32 rfl ?_
      refine At_putI (pc' := 36) iX11_next0_33 rfl f_11_85 (kdK eT (kd_59 hL)) (Or.inl rfl) (by decide) ?_
      refine At_goto (t := 0) iX11_next0_36 (by decide) ?_
      exact hv _ _
set_option maxRecDepth 20000 in
theorem b_X11_next0_0 {d : Nat} {T : HT} (hL : Lay T) {h : Hp} (eT : h.2.2 = T)   {Q : Option Value → Hp → Prop} (hv : (p_X11_see (gI h 59 9) h) ∧ ((((r_X11_see (gI h 59 9) h) = (nI 32)) → (L_X11_next0_0 d  (sI h 59 9 ((gI h 59 9) + (nI 1))) Q)) ∧ (¬ ((r_X11_see (gI h 59 9) h) = (nI 32)) → ((p_X11_see (gI h 59 9) h) ∧ ((((r_X11_see (gI h 59 9) h) = (nI 10)) → (L_X11_next0_0 d  (sI h 59 9 ((gI h 59 9) + (nI 1))) Q)) ∧ (¬ ((r_X11_see (gI h 59 9) h) = (nI 10)) → ((p_X11_see (gI (sI h 59 11 (gI h 59 9)) 59 9) (sI h 59 11 (gI h 59 9))) ∧ ((((r_X11_see (gI (sI h 59 11 (gI h 59 9)) 59 9) (sI h 59 11 (gI h 59 9))) = (-1)) → (Q none (sI (sI h 59 11 (gI h 59 9)) 59 10 (nI 0)))) ∧ (¬ ((r_X11_see (gI (sI h 59 11 (gI h 59 9)) 59 9) (sI h 59 11 (gI h 59 9))) = (-1)) → ((((r_X11_isLetter (r_X11_see (gI (sI h 59 11 (gI h 59 9)) 59 9) (sI h 59 11 (gI h 59 9)))) = true) → (L_X11_next0_76 d  (sI h 59 11 (gI h 59 9)) Q)) ∧ (¬ ((r_X11_isLetter (r_X11_see (gI (sI h 59 11 (gI h 59 9)) 59 9) (sI h 59 11 (gI h 59 9)))) = true) → ((((r_X11_isDigit (r_X11_see (gI (sI h 59 11 (gI h 59 9)) 59 9) (sI h 59 11 (gI h 59 9)))) = true) → (L_X11_next0_126 d  (sI (sI h 59 11 (gI h 59 9)) 59 12 (nI 0)) Q)) ∧ (¬ ((r_X11_isDigit (r_X11_see (gI (sI h 59 11 (gI h 59 9)) 59 9) (sI h 59 11 (gI h 59 9)))) = true) → ((((r_X11_see (gI (sI h 59 11 (gI h 59 9)) 59 9) (sI h 59 11 (gI h 59 9))) = (nI 59)) → (Q none (sI (sI (sI h 59 11 (gI h 59 9)) 59 9 ((gI (sI h 59 11 (gI h 59 9)) 59 9) + (nI 1))) 59 10 ((nI 100) + (r_X11_see (gI (sI h 59 11 (gI h 59 9)) 59 9) (sI h 59 11 (gI h 59 9))))))) ∧ (¬ ((r_X11_see (gI (sI h 59 11 (gI h 59 9)) 59 9) (sI h 59 11 (gI h 59 9))) = (nI 59)) → ((((r_X11_see (gI (sI h 59 11 (gI h 59 9)) 59 9) (sI h 59 11 (gI h 59 9))) = (nI 40)) → (Q none (sI (sI (sI h 59 11 (gI h 59 9)) 59 9 ((gI (sI h 59 11 (gI h 59 9)) 59 9) + (nI 1))) 59 10 ((nI 100) + (r_X11_see (gI (sI h 59 11 (gI h 59 9)) 59 9) (sI h 59 11 (gI h 59 9))))))) ∧ (¬ ((r_X11_see (gI (sI h 59 11 (gI h 59 9)) 59 9) (sI h 59 11 (gI h 59 9))) = (nI 40)) → ((((r_X11_see (gI (sI h 59 11 (gI h 59 9)) 59 9) (sI h 59 11 (gI h 59 9))) = (nI 41)) → (Q none (sI (sI (sI h 59 11 (gI h 59 9)) 59 9 ((gI (sI h 59 11 (gI h 59 9)) 59 9) + (nI 1))) 59 10 ((nI 100) + (r_X11_see (gI (sI h 59 11 (gI h 59 9)) 59 9) (sI h 59 11 (gI h 59 9))))))) ∧ (¬ ((r_X11_see (gI (sI h 59 11 (gI h 59 9)) 59 9) (sI h 59 11 (gI h 59 9))) = (nI 41)) → (Q none (sI (sI (sI h 59 11 (gI h 59 9)) 59 9 ((gI (sI h 59 11 (gI h 59 9)) 59 9) + (nI 1))) 59 10 (nI 1)))))))))))))))))))))) : L_X11_next0_0 d  h Q := by
  intro v1 v2
  refine At_aload_n (pc' := 1) iX11_next0_0 rfl rfl ?_
  refine At_aload_n (pc' := 2) iX11_next0_1 rfl rfl ?_
  refine At_getI (pc' := 5) iX11_next0_2 rfl f_11_85 (kdK eT (kd_59 hL)) (by decide) ?_
  refine At_virt (pc' := 8) iX11_next0_5 rfl m_11_117 rfl rfl (kdK eT (kd_59 hL)) (Nat.le_of_ble_eq_true rfl) (Nat.le_of_ble_eq_true rfl) ?_
  obtain ⟨hn1, hv⟩ := hv
  refine c_X11_see (h := h) hL eT (gI h 59 9)  hn1 (show At (d + 2) MX11_next0 8 [.ref 59, v1, v2] [.int (r_X11_see (gI h 59 9) h)] h Q from ?_)
  refine At_bipush (v := nI 32) (pc' := 10) iX11_next0_8 rfl (by decide) ?_
  refine At_icmp_eq (t := 26) (pc' := 13) iX11_next0_10 (by decide) rfl (fun c10 => ?_) (fun c10 => ?_)
  · have hv := hv.1 c10
    refine At_aload_n (pc' := 27) iX11_next0_26 rfl rfl ?_
    refine At_dup (pc' := 28) iX11_next0_27 rfl rfl ?_
    refine At_getI (pc' := 31) iX11_next0_28 rfl f_11_85 (kdK eT (kd_59 hL)) (by decide) ?_
    refine At_iconst (v := nI 1) (pc' := 32) iX11_next0_31 rfl (by decide) ?_
    refine At_iadd (pc' := 33) iX11_next0_32 rfl ?_
    refine At_putI (pc' := 36) iX11_next0_33 rfl f_11_85 (kdK eT (kd_59 hL)) (Or.inl rfl) (by decide) ?_
    refine At_goto (t := 0) iX11_next0_36 (by decide) ?_
    exact hv _ _
  · have hv := hv.2 c10
    refine At_aload_n (pc' := 14) iX11_next0_13 rfl rfl ?_
    refine At_aload_n (pc' := 15) iX11_next0_14 rfl rfl ?_
    refine At_getI (pc' := 18) iX11_next0_15 rfl f_11_85 (kdK eT (kd_59 hL)) (by decide) ?_
    refine At_virt (pc' := 21) iX11_next0_18 rfl m_11_117 rfl rfl (kdK eT (kd_59 hL)) (Nat.le_of_ble_eq_true rfl) (Nat.le_of_ble_eq_true rfl) ?_
    obtain ⟨hn2, hv⟩ := hv
    refine c_X11_see (h := h) hL eT (gI h 59 9)  hn2 (show At (d + 2) MX11_next0 21 [.ref 59, v1, v2] [.int (r_X11_see (gI h 59 9) h)] h Q from ?_)
    refine At_bipush (v := nI 10) (pc' := 23) iX11_next0_21 rfl (by decide) ?_
    refine At_icmp_ne (t := 39) (pc' := 26) iX11_next0_23 (by decide) rfl (fun c23 => ?_) (fun c23 => ?_)
    · have hv := hv.2 c23
      refine At_aload_n (pc' := 40) iX11_next0_39 rfl rfl ?_
      refine At_aload_n (pc' := 41) iX11_next0_40 rfl rfl ?_
      refine At_getI (pc' := 44) iX11_next0_41 rfl f_11_85 (kdK eT (kd_59 hL)) (by decide) ?_
      refine At_putI (pc' := 47) iX11_next0_44 rfl f_11_88 (kdK eT (kd_59 hL)) (Or.inl rfl) (by decide) ?_
      refine At_aload_n (pc' := 48) iX11_next0_47 rfl rfl ?_
      refine At_aload_n (pc' := 49) iX11_next0_48 rfl rfl ?_
      refine At_getI (pc' := 52) iX11_next0_49 rfl f_11_85 (kdK eT (kd_59 hL)) (by decide) ?_
      refine At_virt (pc' := 55) iX11_next0_52 rfl m_11_117 rfl rfl (kdK eT (kd_59 hL)) (Nat.le_of_ble_eq_true rfl) (Nat.le_of_ble_eq_true rfl) ?_
      obtain ⟨hn3, hv⟩ := hv
      refine c_X11_see (h := sI h 59 11 (gI h 59 9)) hL eT (gI (sI h 59 11 (gI h 59 9)) 59 9)  hn3 (show At (d + 2) MX11_next0 55 [.ref 59, v1, v2] [.int (r_X11_see (gI (sI h 59 11 (gI h 59 9)) 59 9) (sI h 59 11 (gI h 59 9)))] (sI h 59 11 (gI h 59 9)) Q from ?_)
      refine At_istore_n (L' := [.ref 59, .int (r_X11_see (gI (sI h 59 11 (gI h 59 9)) 59 9) (sI h 59 11 (gI h 59 9))), v2]) (pc' := 56) iX11_next0_55 rfl (Nat.le_of_ble_eq_true rfl) rfl ?_
      refine At_iload_n (pc' := 57) iX11_next0_56 rfl rfl ?_
      refine At_iconst (v := (-1)) (pc' := 58) iX11_next0_57 rfl (by decide) ?_
      refine At_icmp_ne (t := 69) (pc' := 61) iX11_next0_58 (by decide) rfl (fun c58 => ?_) (fun c58 => ?_)
      · have hv := hv.2 c58
        refine At_iload_n (pc' := 70) iX11_next0_69 rfl rfl ?_
        refine At_stat (pc' := 73) iX11_next0_70 rfl m_11_124 rfl rfl (Nat.le_of_ble_eq_true rfl) (Nat.le_of_ble_eq_true rfl) (Nat.le_of_ble_eq_true rfl) ?_
        refine c_X11_isLetter (h := sI h 59 11 (gI h 59 9)) (r_X11_see (gI (sI h 59 11 (gI h 59 9)) 59 9) (sI h 59 11 (gI h 59 9)))   (show At (d + 2) MX11_next0 73 [.ref 59, .int (r_X11_see (gI (sI h 59 11 (gI h 59 9)) 59 9) (sI h 59 11 (gI h 59 9))), v2] [.int (b2i (r_X11_isLetter (r_X11_see (gI (sI h 59 11 (gI h 59 9)) 59 9) (sI h 59 11 (gI h 59 9)))))] (sI h 59 11 (gI h 59 9)) Q from ?_)
        refine At_zeq (t := 114) (pc' := 76) iX11_next0_73 (by decide) rfl (fun c73 => ?_) (fun c73 => ?_)
        · have hv := hv.2 c73
          refine At_iload_n (pc' := 115) iX11_next0_114 rfl rfl ?_
          refine At_stat (pc' := 118) iX11_next0_115 rfl m_11_130 rfl rfl (Nat.le_of_ble_eq_true rfl) (Nat.le_of_ble_eq_true rfl) (Nat.le_of_ble_eq_true rfl) ?_
          refine c_X11_isDigit (h := sI h 59 11 (gI h 59 9)) (r_X11_see (gI (sI h 59 11 (gI h 59 9)) 59 9) (sI h 59 11 (gI h 59 9)))   (show At (d + 2) MX11_next0 118 [.ref 59, .int (r_X11_see (gI (sI h 59 11 (gI h 59 9)) 59 9) (sI h 59 11 (gI h 59 9))), v2] [.int (b2i (r_X11_isDigit (r_X11_see (gI (sI h 59 11 (gI h 59 9)) 59 9) (sI h 59 11 (gI h 59 9)))))] (sI h 59 11 (gI h 59 9)) Q from ?_)
          refine At_zeq (t := 214) (pc' := 121) iX11_next0_118 (by decide) rfl (fun c118 => ?_) (fun c118 => ?_)
          · have hv := hv.2 c118
            refine At_aload_n (pc' := 215) iX11_next0_214 rfl rfl ?_
            refine At_dup (pc' := 216) iX11_next0_215 rfl rfl ?_
            refine At_getI (pc' := 219) iX11_next0_216 rfl f_11_85 (kdK eT (kd_59 hL)) (by decide) ?_
            refine At_iconst (v := nI 1) (pc' := 220) iX11_next0_219 rfl (by decide) ?_
            refine At_iadd (pc' := 221) iX11_next0_220 rfl ?_
            refine At_putI (pc' := 224) iX11_next0_221 rfl f_11_85 (kdK eT (kd_59 hL)) (Or.inl rfl) (by decide) ?_
            refine At_iload_n (pc' := 225) iX11_next0_224 rfl rfl ?_
            refine At_bipush (v := nI 59) (pc' := 227) iX11_next0_225 rfl (by decide) ?_
            refine At_icmp_eq (t := 242) (pc' := 230) iX11_next0_227 (by decide) rfl (fun c227 => ?_) (fun c227 => ?_)
            · have hv := hv.1 c227
              refine At_iconst (v := nI 1) (pc' := 243) iX11_next0_242 rfl (by decide) ?_
              refine At_goto (t := 247) iX11_next0_243 (by decide) ?_
              refine At_istore_n (L' := [.ref 59, .int (r_X11_see (gI (sI h 59 11 (gI h 59 9)) 59 9) (sI h 59 11 (gI h 59 9))), .int (nI 1)]) (pc' := 248) iX11_next0_247 rfl (Nat.le_of_ble_eq_true rfl) rfl ?_
              refine At_aload_n (pc' := 249) iX11_next0_248 rfl rfl ?_
              refine At_iload_n (pc' := 250) iX11_next0_249 rfl rfl ?_
              refine At_if_eq (t := 260) (pc' := 253) iX11_next0_250 (by decide) rfl (fun c250 => absurd c250 (by decide)) (fun c250 => ?_)
              refine At_bipush (v := nI 100) (pc' := 255) iX11_next0_253 rfl (by decide) ?_
              refine At_iload_n (pc' := 256) iX11_next0_255 rfl rfl ?_
              refine At_iadd (pc' := 257) iX11_next0_256 rfl ?_
              refine At_goto (t := 261) iX11_next0_257 (by decide) ?_
              refine At_putI (pc' := 264) iX11_next0_261 rfl f_11_121 (kdK eT (kd_59 hL)) (Or.inl rfl) (by decide) ?_
              exact At_retV iX11_next0_264 rfl hv
            · have hv := hv.2 c227
              refine At_iload_n (pc' := 231) iX11_next0_230 rfl rfl ?_
              refine At_bipush (v := nI 40) (pc' := 233) iX11_next0_231 rfl (by decide) ?_
              refine At_icmp_eq (t := 242) (pc' := 236) iX11_next0_233 (by decide) rfl (fun c233 => ?_) (fun c233 => ?_)
              · have hv := hv.1 c233
                refine At_iconst (v := nI 1) (pc' := 243) iX11_next0_242 rfl (by decide) ?_
                refine At_goto (t := 247) iX11_next0_243 (by decide) ?_
                refine At_istore_n (L' := [.ref 59, .int (r_X11_see (gI (sI h 59 11 (gI h 59 9)) 59 9) (sI h 59 11 (gI h 59 9))), .int (nI 1)]) (pc' := 248) iX11_next0_247 rfl (Nat.le_of_ble_eq_true rfl) rfl ?_
                refine At_aload_n (pc' := 249) iX11_next0_248 rfl rfl ?_
                refine At_iload_n (pc' := 250) iX11_next0_249 rfl rfl ?_
                refine At_if_eq (t := 260) (pc' := 253) iX11_next0_250 (by decide) rfl (fun c250 => absurd c250 (by decide)) (fun c250 => ?_)
                refine At_bipush (v := nI 100) (pc' := 255) iX11_next0_253 rfl (by decide) ?_
                refine At_iload_n (pc' := 256) iX11_next0_255 rfl rfl ?_
                refine At_iadd (pc' := 257) iX11_next0_256 rfl ?_
                refine At_goto (t := 261) iX11_next0_257 (by decide) ?_
                refine At_putI (pc' := 264) iX11_next0_261 rfl f_11_121 (kdK eT (kd_59 hL)) (Or.inl rfl) (by decide) ?_
                exact At_retV iX11_next0_264 rfl hv
              · have hv := hv.2 c233
                refine At_iload_n (pc' := 237) iX11_next0_236 rfl rfl ?_
                refine At_bipush (v := nI 41) (pc' := 239) iX11_next0_237 rfl (by decide) ?_
                refine At_icmp_ne (t := 246) (pc' := 242) iX11_next0_239 (by decide) rfl (fun c239 => ?_) (fun c239 => ?_)
                · have hv := hv.2 c239
                  refine At_iconst (v := nI 0) (pc' := 247) iX11_next0_246 rfl (by decide) ?_
                  refine At_istore_n (L' := [.ref 59, .int (r_X11_see (gI (sI h 59 11 (gI h 59 9)) 59 9) (sI h 59 11 (gI h 59 9))), .int (nI 0)]) (pc' := 248) iX11_next0_247 rfl (Nat.le_of_ble_eq_true rfl) rfl ?_
                  refine At_aload_n (pc' := 249) iX11_next0_248 rfl rfl ?_
                  refine At_iload_n (pc' := 250) iX11_next0_249 rfl rfl ?_
                  refine At_if_eq (t := 260) (pc' := 253) iX11_next0_250 (by decide) rfl (fun c250 => ?_) (fun c250 => absurd c250 (by decide))
                  refine At_iconst (v := nI 1) (pc' := 261) iX11_next0_260 rfl (by decide) ?_
                  refine At_putI (pc' := 264) iX11_next0_261 rfl f_11_121 (kdK eT (kd_59 hL)) (Or.inl rfl) (by decide) ?_
                  exact At_retV iX11_next0_264 rfl hv
                · have hv := hv.1 c239
                  refine At_iconst (v := nI 1) (pc' := 243) iX11_next0_242 rfl (by decide) ?_
                  refine At_goto (t := 247) iX11_next0_243 (by decide) ?_
                  refine At_istore_n (L' := [.ref 59, .int (r_X11_see (gI (sI h 59 11 (gI h 59 9)) 59 9) (sI h 59 11 (gI h 59 9))), .int (nI 1)]) (pc' := 248) iX11_next0_247 rfl (Nat.le_of_ble_eq_true rfl) rfl ?_
                  refine At_aload_n (pc' := 249) iX11_next0_248 rfl rfl ?_
                  refine At_iload_n (pc' := 250) iX11_next0_249 rfl rfl ?_
                  refine At_if_eq (t := 260) (pc' := 253) iX11_next0_250 (by decide) rfl (fun c250 => absurd c250 (by decide)) (fun c250 => ?_)
                  refine At_bipush (v := nI 100) (pc' := 255) iX11_next0_253 rfl (by decide) ?_
                  refine At_iload_n (pc' := 256) iX11_next0_255 rfl rfl ?_
                  refine At_iadd (pc' := 257) iX11_next0_256 rfl ?_
                  refine At_goto (t := 261) iX11_next0_257 (by decide) ?_
                  refine At_putI (pc' := 264) iX11_next0_261 rfl f_11_121 (kdK eT (kd_59 hL)) (Or.inl rfl) (by decide) ?_
                  exact At_retV iX11_next0_264 rfl hv
          · have hv := hv.1 c118
            refine At_aload_n (pc' := 122) iX11_next0_121 rfl rfl ?_
            refine At_iconst (v := nI 0) (pc' := 123) iX11_next0_122 rfl (by decide) ?_
            refine At_putI (pc' := 126) iX11_next0_123 rfl f_11_133 (kdK eT (kd_59 hL)) (Or.inl rfl) (by decide) ?_
            exact hv _ _
        · have hv := hv.1 c73
          exact hv _ _
      · have hv := hv.1 c58
        refine At_aload_n (pc' := 62) iX11_next0_61 rfl rfl ?_
        refine At_iconst (v := nI 0) (pc' := 63) iX11_next0_62 rfl (by decide) ?_
        refine At_putI (pc' := 66) iX11_next0_63 rfl f_11_121 (kdK eT (kd_59 hL)) (Or.inl rfl) (by decide) ?_
        refine At_goto (t := 264) iX11_next0_66 (by decide) ?_
        exact At_retV iX11_next0_264 rfl hv
    · have hv := hv.1 c23
      refine At_aload_n (pc' := 27) iX11_next0_26 rfl rfl ?_
      refine At_dup (pc' := 28) iX11_next0_27 rfl rfl ?_
      refine At_getI (pc' := 31) iX11_next0_28 rfl f_11_85 (kdK eT (kd_59 hL)) (by decide) ?_
      refine At_iconst (v := nI 1) (pc' := 32) iX11_next0_31 rfl (by decide) ?_
      refine At_iadd (pc' := 33) iX11_next0_32 rfl ?_
      refine At_putI (pc' := 36) iX11_next0_33 rfl f_11_85 (kdK eT (kd_59 hL)) (Or.inl rfl) (by decide) ?_
      refine At_goto (t := 0) iX11_next0_36 (by decide) ?_
      exact hv _ _
set_option maxRecDepth 20000 in
theorem b_X11_next0_126 {d : Nat} {T : HT} (hL : Lay T) {h : Hp} (eT : h.2.2 = T)   {Q : Option Value → Hp → Prop} (hv : (p_X11_see (gI h 59 9) h) ∧ ((((r_X11_isDigit (r_X11_see (gI h 59 9) h)) = true) → ((((gI h 59 9) < ((gI h 59 11) + (nI 4))) → ((p_X11_see (gI h 59 9) h) ∧ (L_X11_next0_126 d  (sI (sI h 59 12 ((((nI 10) * (gI h 59 12)) + (r_X11_see (gI h 59 9) h)) - (nI 48))) 59 9 ((gI (sI h 59 12 ((((nI 10) * (gI h 59 12)) + (r_X11_see (gI h 59 9) h)) - (nI 48))) 59 9) + (nI 1))) Q))) ∧ (¬ ((gI h 59 9) < ((gI h 59 11) + (nI 4))) → (L_X11_next0_126 d  (sI h 59 9 ((gI h 59 9) + (nI 1))) Q)))) ∧ (¬ ((r_X11_isDigit (r_X11_see (gI h 59 9) h)) = true) → (((((gI h 59 9) - (gI h 59 11)) < (nI 5)) → (Q none (sI h 59 10 (nI 2)))) ∧ (¬ (((gI h 59 9) - (gI h 59 11)) < (nI 5)) → (Q none (sI h 59 10 (nI 1)))))))) : L_X11_next0_126 d  h Q := by
  intro v1 v2
  refine At_aload_n (pc' := 127) iX11_next0_126 rfl rfl ?_
  refine At_aload_n (pc' := 128) iX11_next0_127 rfl rfl ?_
  refine At_getI (pc' := 131) iX11_next0_128 rfl f_11_85 (kdK eT (kd_59 hL)) (by decide) ?_
  refine At_virt (pc' := 134) iX11_next0_131 rfl m_11_117 rfl rfl (kdK eT (kd_59 hL)) (Nat.le_of_ble_eq_true rfl) (Nat.le_of_ble_eq_true rfl) ?_
  obtain ⟨hn1, hv⟩ := hv
  refine c_X11_see (h := h) hL eT (gI h 59 9)  hn1 (show At (d + 2) MX11_next0 134 [.ref 59, v1, v2] [.int (r_X11_see (gI h 59 9) h)] h Q from ?_)
  refine At_stat (pc' := 137) iX11_next0_134 rfl m_11_130 rfl rfl (Nat.le_of_ble_eq_true rfl) (Nat.le_of_ble_eq_true rfl) (Nat.le_of_ble_eq_true rfl) ?_
  refine c_X11_isDigit (h := h) (r_X11_see (gI h 59 9) h)   (show At (d + 2) MX11_next0 137 [.ref 59, v1, v2] [.int (b2i (r_X11_isDigit (r_X11_see (gI h 59 9) h)))] h Q from ?_)
  refine At_zeq (t := 189) (pc' := 140) iX11_next0_137 (by decide) rfl (fun c137 => ?_) (fun c137 => ?_)
  · have hv := hv.2 c137
    refine At_aload_n (pc' := 190) iX11_next0_189 rfl rfl ?_
    refine At_aload_n (pc' := 191) iX11_next0_190 rfl rfl ?_
    refine At_getI (pc' := 194) iX11_next0_191 rfl f_11_85 (kdK eT (kd_59 hL)) (by decide) ?_
    refine At_aload_n (pc' := 195) iX11_next0_194 rfl rfl ?_
    refine At_getI (pc' := 198) iX11_next0_195 rfl f_11_88 (kdK eT (kd_59 hL)) (by decide) ?_
    refine At_isub (pc' := 199) iX11_next0_198 rfl ?_
    refine At_iconst (v := nI 5) (pc' := 200) iX11_next0_199 rfl (by decide) ?_
    refine At_icmp_ge (t := 207) (pc' := 203) iX11_next0_200 (by decide) rfl (fun c200 => ?_) (fun c200 => ?_)
    · have hv := hv.2 c200
      refine At_iconst (v := nI 1) (pc' := 208) iX11_next0_207 rfl (by decide) ?_
      refine At_putI (pc' := 211) iX11_next0_208 rfl f_11_121 (kdK eT (kd_59 hL)) (Or.inl rfl) (by decide) ?_
      refine At_goto (t := 264) iX11_next0_211 (by decide) ?_
      exact At_retV iX11_next0_264 rfl hv
    · have hv := hv.1 c200
      refine At_iconst (v := nI 2) (pc' := 204) iX11_next0_203 rfl (by decide) ?_
      refine At_goto (t := 208) iX11_next0_204 (by decide) ?_
      refine At_putI (pc' := 211) iX11_next0_208 rfl f_11_121 (kdK eT (kd_59 hL)) (Or.inl rfl) (by decide) ?_
      refine At_goto (t := 264) iX11_next0_211 (by decide) ?_
      exact At_retV iX11_next0_264 rfl hv
  · have hv := hv.1 c137
    refine At_aload_n (pc' := 141) iX11_next0_140 rfl rfl ?_
    refine At_getI (pc' := 144) iX11_next0_141 rfl f_11_85 (kdK eT (kd_59 hL)) (by decide) ?_
    refine At_aload_n (pc' := 145) iX11_next0_144 rfl rfl ?_
    refine At_getI (pc' := 148) iX11_next0_145 rfl f_11_88 (kdK eT (kd_59 hL)) (by decide) ?_
    refine At_iconst (v := nI 4) (pc' := 149) iX11_next0_148 rfl (by decide) ?_
    refine At_iadd (pc' := 150) iX11_next0_149 rfl ?_
    refine At_icmp_ge (t := 176) (pc' := 153) iX11_next0_150 (by decide) rfl (fun c150 => ?_) (fun c150 => ?_)
    · have hv := hv.2 c150
      refine At_aload_n (pc' := 177) iX11_next0_176 rfl rfl ?_
      refine At_dup (pc' := 178) iX11_next0_177 rfl rfl ?_
      refine At_getI (pc' := 181) iX11_next0_178 rfl f_11_85 (kdK eT (kd_59 hL)) (by decide) ?_
      refine At_iconst (v := nI 1) (pc' := 182) iX11_next0_181 rfl (by decide) ?_
      refine At_iadd (pc' := 183) iX11_next0_182 rfl ?_
      refine At_putI (pc' := 186) iX11_next0_183 rfl f_11_85 (kdK eT (kd_59 hL)) (Or.inl rfl) (by decide) ?_
      refine At_goto (t := 126) iX11_next0_186 (by decide) ?_
      exact hv _ _
    · have hv := hv.1 c150
      refine At_aload_n (pc' := 154) iX11_next0_153 rfl rfl ?_
      refine At_bipush (v := nI 10) (pc' := 156) iX11_next0_154 rfl (by decide) ?_
      refine At_aload_n (pc' := 157) iX11_next0_156 rfl rfl ?_
      refine At_getI (pc' := 160) iX11_next0_157 rfl f_11_133 (kdK eT (kd_59 hL)) (by decide) ?_
      refine At_imul (pc' := 161) iX11_next0_160 rfl ?_
      refine At_aload_n (pc' := 162) iX11_next0_161 rfl rfl ?_
      refine At_aload_n (pc' := 163) iX11_next0_162 rfl rfl ?_
      refine At_getI (pc' := 166) iX11_next0_163 rfl f_11_85 (kdK eT (kd_59 hL)) (by decide) ?_
      refine At_virt (pc' := 169) iX11_next0_166 rfl m_11_117 rfl rfl (kdK eT (kd_59 hL)) (Nat.le_of_ble_eq_true rfl) (Nat.le_of_ble_eq_true rfl) ?_
      obtain ⟨hn2, hv⟩ := hv
      refine c_X11_see (h := h) hL eT (gI h 59 9)  hn2 (show At (d + 2) MX11_next0 169 [.ref 59, v1, v2] [.int (r_X11_see (gI h 59 9) h), .int ((nI 10) * (gI h 59 12)), .ref 59] h Q from ?_)
      refine At_iadd (pc' := 170) iX11_next0_169 rfl ?_
      refine At_bipush (v := nI 48) (pc' := 172) iX11_next0_170 rfl (by decide) ?_
      refine At_isub (pc' := 173) iX11_next0_172 rfl ?_
      refine At_putI (pc' := 176) iX11_next0_173 rfl f_11_133 (kdK eT (kd_59 hL)) (Or.inl rfl) (by decide) ?_
      refine At_aload_n (pc' := 177) iX11_next0_176 rfl rfl ?_
      refine At_dup (pc' := 178) iX11_next0_177 rfl rfl ?_
      refine At_getI (pc' := 181) iX11_next0_178 rfl f_11_85 (kdK eT (kd_59 hL)) (by decide) ?_
      refine At_iconst (v := nI 1) (pc' := 182) iX11_next0_181 rfl (by decide) ?_
      refine At_iadd (pc' := 183) iX11_next0_182 rfl ?_
      refine At_putI (pc' := 186) iX11_next0_183 rfl f_11_85 (kdK eT (kd_59 hL)) (Or.inl rfl) (by decide) ?_
      refine At_goto (t := 126) iX11_next0_186 (by decide) ?_
      exact hv _ _
set_option maxRecDepth 20000 in
theorem b_X11_next0_76 {d : Nat} {T : HT} (hL : Lay T) {h : Hp} (eT : h.2.2 = T)   {Q : Option Value → Hp → Prop} (hv : (p_X11_see (gI h 59 9) h) ∧ ((((r_X11_isLetter (r_X11_see (gI h 59 9) h)) = true) → (L_X11_next0_76 d  (sI h 59 9 ((gI h 59 9) + (nI 1))) Q)) ∧ (¬ ((r_X11_isLetter (r_X11_see (gI h 59 9) h)) = true) → (CallI (d + 1) MX11_word [.ref 59] h (fun r105 h105 => h105.2.2 = T ∧ (Q none (sI h105 59 10 r105))))))) : L_X11_next0_76 d  h Q := by
  intro v1 v2
  refine At_aload_n (pc' := 77) iX11_next0_76 rfl rfl ?_
  refine At_aload_n (pc' := 78) iX11_next0_77 rfl rfl ?_
  refine At_getI (pc' := 81) iX11_next0_78 rfl f_11_85 (kdK eT (kd_59 hL)) (by decide) ?_
  refine At_virt (pc' := 84) iX11_next0_81 rfl m_11_117 rfl rfl (kdK eT (kd_59 hL)) (Nat.le_of_ble_eq_true rfl) (Nat.le_of_ble_eq_true rfl) ?_
  obtain ⟨hn1, hv⟩ := hv
  refine c_X11_see (h := h) hL eT (gI h 59 9)  hn1 (show At (d + 2) MX11_next0 84 [.ref 59, v1, v2] [.int (r_X11_see (gI h 59 9) h)] h Q from ?_)
  refine At_stat (pc' := 87) iX11_next0_84 rfl m_11_124 rfl rfl (Nat.le_of_ble_eq_true rfl) (Nat.le_of_ble_eq_true rfl) (Nat.le_of_ble_eq_true rfl) ?_
  refine c_X11_isLetter (h := h) (r_X11_see (gI h 59 9) h)   (show At (d + 2) MX11_next0 87 [.ref 59, v1, v2] [.int (b2i (r_X11_isLetter (r_X11_see (gI h 59 9) h)))] h Q from ?_)
  refine At_zeq (t := 103) (pc' := 90) iX11_next0_87 (by decide) rfl (fun c87 => ?_) (fun c87 => ?_)
  · have hv := hv.2 c87
    refine At_aload_n (pc' := 104) iX11_next0_103 rfl rfl ?_
    refine At_aload_n (pc' := 105) iX11_next0_104 rfl rfl ?_
    refine At_virt (pc' := 108) iX11_next0_105 rfl m_11_127 rfl rfl (kdK eT (kd_59 hL)) (Nat.le_of_ble_eq_true rfl) (Nat.le_of_ble_eq_true rfl) ?_
    refine At.mono (show CallI (d + 1) MX11_word [.ref 59] h _ from hv) ?_
    rintro _ h105 ⟨r105, rfl, eT105, hv⟩
    show At (d + 2) MX11_next0 108 [.ref 59, v1, v2] [.int r105, .ref 59] h105 Q
    refine At_putI (pc' := 111) iX11_next0_108 rfl f_11_121 (kdK eT105 (kd_59 hL)) (Or.inl rfl) (by decide) ?_
    refine At_goto (t := 264) iX11_next0_111 (by decide) ?_
    exact At_retV iX11_next0_264 rfl hv
  · have hv := hv.1 c87
    refine At_aload_n (pc' := 91) iX11_next0_90 rfl rfl ?_
    refine At_dup (pc' := 92) iX11_next0_91 rfl rfl ?_
    refine At_getI (pc' := 95) iX11_next0_92 rfl f_11_85 (kdK eT (kd_59 hL)) (by decide) ?_
    refine At_iconst (v := nI 1) (pc' := 96) iX11_next0_95 rfl (by decide) ?_
    refine At_iadd (pc' := 97) iX11_next0_96 rfl ?_
    refine At_putI (pc' := 100) iX11_next0_97 rfl f_11_85 (kdK eT (kd_59 hL)) (Or.inl rfl) (by decide) ?_
    refine At_goto (t := 76) iX11_next0_100 (by decide) ?_
    exact hv _ _
