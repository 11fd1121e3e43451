-- blocks between loop heads; written out by gen20.py
-- X11_of (calls X11_slotOf)
set_option maxRecDepth 20000 in
theorem b_X11_of {d : Nat} {T : HT} (hL : Lay T) {h : Hp} (eT : h.2.2 = T) (x1 : Int32) (x2 : Int32)  {Q : Option Value → Hp → Prop} (hv : (((r_X11_isSlot x1 h) = true) → (((x2 = 0) → (CallI (d + 1) MX11_slotOf [.ref 59, .int x1] h (fun r16 h16 => h16.2.2 = T ∧ (Q (some (.int r16)) h16)))) ∧ (¬ (x2 = 0) → (((x2 = (nI 1)) → ((inB ((nI 10) + x1) 4180 = true) ∧ (Q (some (.int (gI h 60 (((nI 10) + x1).toNatClampNeg)))) h))) ∧ (¬ (x2 = (nI 1)) → (((x2 = (nI 2)) → ((inB ((nI 26) + x1) 4180 = true) ∧ (Q (some (.int (gI h 60 (((nI 26) + x1).toNatClampNeg)))) h))) ∧ (¬ (x2 = (nI 2)) → (Q (some (.int (-1))) h)))))))) ∧ (¬ ((r_X11_isSlot x1 h) = true) → (Q (some (.int (-1))) h))) : Call (d + 2) MX11_of [.ref 59, .int x1, .int x2] h Q := by
  show At (d + 2) MX11_of 0 [.ref 59, .int x1, .int x2] [] h Q
  refine At_aload_n (pc' := 1) iX11_of_0 rfl rfl ?_
  refine At_iload_n (pc' := 2) iX11_of_1 rfl rfl ?_
  refine At_virt (pc' := 5) iX11_of_2 rfl m_11_78 rfl rfl (kdK eT (kd_59 hL)) (Nat.le_of_ble_eq_true rfl) (Nat.le_of_ble_eq_true rfl) ?_
  refine c_X11_isSlot (h := h) hL eT x1   (show At (d + 2) MX11_of 5 [.ref 59, .int x1, .int x2] [.int (b2i (r_X11_isSlot x1 h))] h Q from ?_)
  refine At_zne (t := 10) (pc' := 8) iX11_of_5 (by decide) rfl (fun c5 => ?_) (fun c5 => ?_)
  · have hv := hv.1 c5
    refine At_iload_n (pc' := 11) iX11_of_10 rfl rfl ?_
    refine At_if_ne (t := 22) (pc' := 14) iX11_of_11 (by decide) rfl (fun c11 => ?_) (fun c11 => ?_)
    · have hv := hv.2 c11
      refine At_iload_n (pc' := 23) iX11_of_22 rfl rfl ?_
      refine At_iconst (v := nI 1) (pc' := 24) iX11_of_23 rfl (by decide) ?_
      refine At_icmp_ne (t := 39) (pc' := 27) iX11_of_24 (by decide) rfl (fun c24 => ?_) (fun c24 => ?_)
      · have hv := hv.2 c24
        refine At_iload_n (pc' := 40) iX11_of_39 rfl rfl ?_
        refine At_iconst (v := nI 2) (pc' := 41) iX11_of_40 rfl (by decide) ?_
        refine At_icmp_ne (t := 56) (pc' := 44) iX11_of_41 (by decide) rfl (fun c41 => ?_) (fun c41 => ?_)
        · have hv := hv.2 c41
          refine At_iconst (v := (-1)) (pc' := 57) iX11_of_56 rfl (by decide) ?_
          exact At_retI iX11_of_57 rfl hv
        · have hv := hv.1 c41
          refine At_aload_n (pc' := 45) iX11_of_44 rfl rfl ?_
          refine At_getR (pc' := 48) iX11_of_45 rfl f_11_7 (kdK eT (kd_59 hL)) (by decide) (rfH eT (rf_59_0 hL)) ?_
          refine At_bipush (v := nI 26) (pc' := 50) iX11_of_48 rfl (by decide) ?_
          refine At_iload_n (pc' := 51) iX11_of_50 rfl rfl ?_
          refine At_iadd (pc' := 52) iX11_of_51 rfl ?_
          obtain ⟨hn1, hv⟩ := hv
          refine At_iald (pc' := 53) iX11_of_52 rfl (kdH eT (kd_60 hL)) hn1 (show At (d + 2) MX11_of 53 [.ref 59, .int x1, .int x2] [.int (gI h 60 (((nI 26) + x1).toNatClampNeg))] h Q from ?_)
          refine At_goto (t := 57) iX11_of_53 (by decide) ?_
          exact At_retI iX11_of_57 rfl hv
      · have hv := hv.1 c24
        refine At_aload_n (pc' := 28) iX11_of_27 rfl rfl ?_
        refine At_getR (pc' := 31) iX11_of_28 rfl f_11_7 (kdK eT (kd_59 hL)) (by decide) (rfH eT (rf_59_0 hL)) ?_
        refine At_bipush (v := nI 10) (pc' := 33) iX11_of_31 rfl (by decide) ?_
        refine At_iload_n (pc' := 34) iX11_of_33 rfl rfl ?_
        refine At_iadd (pc' := 35) iX11_of_34 rfl ?_
        obtain ⟨hn2, hv⟩ := hv
        refine At_iald (pc' := 36) iX11_of_35 rfl (kdH eT (kd_60 hL)) hn2 (show At (d + 2) MX11_of 36 [.ref 59, .int x1, .int x2] [.int (gI h 60 (((nI 10) + x1).toNatClampNeg))] h Q from ?_)
        refine At_goto (t := 57) iX11_of_36 (by decide) ?_
        exact At_retI iX11_of_57 rfl hv
    · have hv := hv.1 c11
      refine At_aload_n (pc' := 15) iX11_of_14 rfl rfl ?_
      refine At_iload_n (pc' := 16) iX11_of_15 rfl rfl ?_
      refine At_virt (pc' := 19) iX11_of_16 rfl m_11_217 rfl rfl (kdK eT (kd_59 hL)) (Nat.le_of_ble_eq_true rfl) (Nat.le_of_ble_eq_true rfl) ?_
      refine At.mono (show CallI (d + 1) MX11_slotOf [.ref 59, .int x1] h _ from hv) ?_
      rintro _ h16 ⟨r16, rfl, eT16, hv⟩
      show At (d + 2) MX11_of 19 [.ref 59, .int x1, .int x2] [.int r16] h16 Q
      refine At_goto (t := 57) iX11_of_19 (by decide) ?_
      exact At_retI iX11_of_57 rfl hv
  · have hv := hv.2 c5
    refine At_iconst (v := (-1)) (pc' := 9) iX11_of_8 rfl (by decide) ?_
    exact At_retI iX11_of_9 rfl hv
-- X0_needed (calls J7_fill_53178)
def L_X0_needed_13 (d : Nat) (x1 : Nat) (x2 : Int32) (x3 : Int32) (x4 : Int32) (h : Hp) (Q : Option Value → Hp → Prop) : Prop := ∀ v5 : Value, At (d + 3) MX0_needed 13 [.ref 50, .ref x1, .int x2, .int x3, .int x4, v5] [] h Q
set_option maxRecDepth 20000 in
theorem b_X0_needed {d : Nat} {T : HT} (hL : Lay T) {h : Hp} (eT : h.2.2 = T) (x1 : Nat) (x2 : Int32) (hA1 : IsX7 T x1) {Q : Option Value → Hp → Prop} (hv : CallV (d + 2) MJ7_fill_53178 [.ref 52, .int (nI 0)] h (fun h5 => h5.2.2 = T ∧ (L_X0_needed_13 d x1 x2 (nI 0) (nI 0) h5 Q))) : Call (d + 3) MX0_needed [.ref 50, .ref x1, .int x2] h Q := by
  show At (d + 3) MX0_needed 0 [.ref 50, .ref x1, .int x2, un, un, un] [] h Q
  refine At_aload_n (pc' := 1) iX0_needed_0 rfl rfl ?_
  refine At_getR (pc' := 4) iX0_needed_1 rfl f_0_15 (kdK eT (kd_50 hL)) (by decide) (rfH eT (rf_50_1 hL)) ?_
  refine At_iconst (v := nI 0) (pc' := 5) iX0_needed_4 rfl (by decide) ?_
  refine At_stat (pc' := 8) iX0_needed_5 rfl m_0_18 rfl rfl (Nat.le_of_ble_eq_true rfl) (Nat.le_of_ble_eq_true rfl) (Nat.le_of_ble_eq_true rfl) ?_
  refine At.mono (show CallV (d + 2) MJ7_fill_53178 [.ref 52, .int (nI 0)] h _ from hv) ?_
  rintro _ h5 ⟨rfl, eT5, hv⟩
  show At (d + 3) MX0_needed 8 [.ref 50, .ref x1, .int x2, un, un, un] [] h5 Q
  refine At_iconst (v := nI 0) (pc' := 9) iX0_needed_8 rfl (by decide) ?_
  refine At_istore_n (L' := [.ref 50, .ref x1, .int x2, .int (nI 0), un, un]) (pc' := 10) iX0_needed_9 rfl (Nat.le_of_ble_eq_true rfl) rfl ?_
  refine At_iconst (v := nI 0) (pc' := 11) iX0_needed_10 rfl (by decide) ?_
  refine At_istore (L' := [.ref 50, .ref x1, .int x2, .int (nI 0), .int (nI 0), un]) (pc' := 13) iX0_needed_11 rfl (Nat.le_of_ble_eq_true rfl) rfl ?_
  exact hv _
set_option maxRecDepth 20000 in
theorem b_X0_needed_13 {d : Nat} {T : HT} (hL : Lay T) {h : Hp} (eT : h.2.2 = T) (x1 : Nat) (x2 : Int32) (x3 : Int32) (x4 : Int32) (hA1 : IsX7 T x1) {Q : Option Value → Hp → Prop} (hv : ((x4 < (gI h x1 0)) → ((inB x4 200 = true) ∧ ((((r_X4_isTurn (gI h (x1 + 1) x4.toNatClampNeg)) = true) → (L_X0_needed_13 d x1 x2 x3 (x4 + nI 1) h Q)) ∧ (¬ ((r_X4_isTurn (gI h (x1 + 1) x4.toNatClampNeg)) = true) → (CallI (d + 2) MX0_earliest [.ref 50, .ref x1, .int x4, .int x2] h (fun r40 h40 => h40.2.2 = T ∧ ((inB x4 200 = true) ∧ ((inB r40 202 = true) ∧ ((inB r40 202 = true) ∧ (L_X0_needed_13 d x1 x2 (if x3 < r40 then r40 else x3) (x4 + nI 1) (sI (sI h40 51 x4.toNatClampNeg r40) 52 r40.toNatClampNeg ((gI (sI h40 51 x4.toNatClampNeg r40) 52 r40.toNatClampNeg) + (nI 1))) Q)))))))))) ∧ (¬ (x4 < (gI h x1 0)) → (Q (some (.int x3)) h))) : L_X0_needed_13 d x1 x2 x3 x4 h Q := by
  intro v5
  refine At_iload (pc' := 15) iX0_needed_13 rfl rfl ?_
  refine At_aload_n (pc' := 16) iX0_needed_15 rfl rfl ?_
  refine At_getI (pc' := 19) iX0_needed_16 rfl f_0_24 (kdK eT (X7_k0 hA1)) (by decide) ?_
  refine At_icmp_ge (t := 78) (pc' := 22) iX0_needed_19 (by decide) rfl (fun c19 => ?_) (fun c19 => ?_)
  · have hv := hv.2 c19
    refine At_iload_n (pc' := 79) iX0_needed_78 rfl rfl ?_
    exact At_retI iX0_needed_79 rfl hv
  · have hv := hv.1 c19
    refine At_aload_n (pc' := 23) iX0_needed_22 rfl rfl ?_
    refine At_getR (pc' := 26) iX0_needed_23 rfl f_0_30 (kdK eT (X7_k0 hA1)) (by decide) (rfH eT (X7_r1 hA1)) ?_
    refine At_iload (pc' := 28) iX0_needed_26 rfl rfl ?_
    obtain ⟨hn1, hv⟩ := hv
    refine At_iald (pc' := 29) iX0_needed_28 rfl (kdH eT (X7_k1 hA1)) hn1 (show At (d + 3) MX0_needed 29 [.ref 50, .ref x1, .int x2, .int x3, .int x4, v5] [.int (gI h (x1 + 1) x4.toNatClampNeg)] h Q from ?_)
    refine At_stat (pc' := 32) iX0_needed_29 rfl m_0_33 rfl rfl (Nat.le_of_ble_eq_true rfl) (Nat.le_of_ble_eq_true rfl) (Nat.le_of_ble_eq_true rfl) ?_
    refine c_X4_isTurn (h := h) (gI h (x1 + 1) x4.toNatClampNeg)   (show At (d + 3) MX0_needed 32 [.ref 50, .ref x1, .int x2, .int x3, .int x4, v5] [.int (b2i (r_X4_isTurn (gI h (x1 + 1) x4.toNatClampNeg)))] h Q from ?_)
    refine At_zne (t := 72) (pc' := 35) iX0_needed_32 (by decide) rfl (fun c32 => ?_) (fun c32 => ?_)
    · have hv := hv.1 c32
      refine At_iinc (v := nI 1) (L' := [.ref 50, .ref x1, .int x2, .int x3, .int (x4 + nI 1), v5]) (pc' := 75) iX0_needed_72 rfl rfl (Nat.le_of_ble_eq_true rfl) (by decide) rfl ?_
      refine At_goto (t := 13) iX0_needed_75 (by decide) ?_
      exact hv _
    · have hv := hv.2 c32
      refine At_aload_n (pc' := 36) iX0_needed_35 rfl rfl ?_
      refine At_aload_n (pc' := 37) iX0_needed_36 rfl rfl ?_
      refine At_iload (pc' := 39) iX0_needed_37 rfl rfl ?_
      refine At_iload_n (pc' := 40) iX0_needed_39 rfl rfl ?_
      refine At_virt (pc' := 43) iX0_needed_40 rfl m_0_39 rfl rfl (kdK eT (kd_50 hL)) (Nat.le_of_ble_eq_true rfl) (Nat.le_of_ble_eq_true rfl) ?_
      refine At.mono (show CallI (d + 2) MX0_earliest [.ref 50, .ref x1, .int x4, .int x2] h _ from hv) ?_
      rintro _ h40 ⟨r40, rfl, eT40, hv⟩
      show At (d + 3) MX0_needed 43 [.ref 50, .ref x1, .int x2, .int x3, .int x4, v5] [.int r40] h40 Q
      refine At_istore (L' := [.ref 50, .ref x1, .int x2, .int x3, .int x4, .int r40]) (pc' := 45) iX0_needed_43 rfl (Nat.le_of_ble_eq_true rfl) rfl ?_
      refine At_aload_n (pc' := 46) iX0_needed_45 rfl rfl ?_
      refine At_getR (pc' := 49) iX0_needed_46 rfl f_0_9 (kdK eT40 (kd_50 hL)) (by decide) (rfH eT40 (rf_50_0 hL)) ?_
      refine At_iload (pc' := 51) iX0_needed_49 rfl rfl ?_
      refine At_iload (pc' := 53) iX0_needed_51 rfl rfl ?_
      obtain ⟨hn2, hv⟩ := hv
      refine At_iast (pc' := 54) iX0_needed_53 rfl (kdH eT40 (kd_51 hL)) hn2 (show At (d + 3) MX0_needed 54 [.ref 50, .ref x1, .int x2, .int x3, .int x4, .int r40] [] (sI h40 51 x4.toNatClampNeg r40) Q from ?_)
      refine At_aload_n (pc' := 55) iX0_needed_54 rfl rfl ?_
      refine At_getR (pc' := 58) iX0_needed_55 rfl f_0_15 (kdK eT40 (kd_50 hL)) (by decide) (rfH eT40 (rf_50_1 hL)) ?_
      refine At_iload (pc' := 60) iX0_needed_58 rfl rfl ?_
      refine At_dup2 (pc' := 61) iX0_needed_60 rfl rfl rfl ?_
      obtain ⟨hn3, hv⟩ := hv
      refine At_iald (pc' := 62) iX0_needed_61 rfl (kdH eT40 (kd_52 hL)) hn3 (show At (d + 3) MX0_needed 62 [.ref 50, .ref x1, .int x2, .int x3, .int x4, .int r40] [.int (gI (sI h40 51 x4.toNatClampNeg r40) 52 r40.toNatClampNeg), .int r40, .ref 52] (sI h40 51 x4.toNatClampNeg r40) Q from ?_)
      refine At_iconst (v := nI 1) (pc' := 63) iX0_needed_62 rfl (by decide) ?_
      refine At_iadd (pc' := 64) iX0_needed_63 rfl ?_
      obtain ⟨hn4, hv⟩ := hv
      refine At_iast (pc' := 65) iX0_needed_64 rfl (kdH eT40 (kd_52 hL)) hn4 (show At (d + 3) MX0_needed 65 [.ref 50, .ref x1, .int x2, .int x3, .int x4, .int r40] [] (sI (sI h40 51 x4.toNatClampNeg r40) 52 r40.toNatClampNeg ((gI (sI h40 51 x4.toNatClampNeg r40) 52 r40.toNatClampNeg) + (nI 1))) Q from ?_)
      refine At_iload_n (pc' := 66) iX0_needed_65 rfl rfl ?_
      refine At_iload (pc' := 68) iX0_needed_66 rfl rfl ?_
      refine At_max (pc' := 71) iX0_needed_68 rfl m_0_43 (Nat.le_of_ble_eq_true rfl) ?_
      refine At_istore_n (L' := [.ref 50, .ref x1, .int x2, .int (if x3 < r40 then r40 else x3), .int x4, .int r40]) (pc' := 72) iX0_needed_71 rfl (Nat.le_of_ble_eq_true rfl) rfl ?_
      refine At_iinc (v := nI 1) (L' := [.ref 50, .ref x1, .int x2, .int (if x3 < r40 then r40 else x3), .int (x4 + nI 1), .int r40]) (pc' := 75) iX0_needed_72 rfl rfl (Nat.le_of_ble_eq_true rfl) (by decide) rfl ?_
      refine At_goto (t := 13) iX0_needed_75 (by decide) ?_
      exact hv _
-- X1_make (calls X1_countOver)
set_option maxRecDepth 20000 in
theorem b_X1_make {d : Nat} {T : HT} (hL : Lay T) {h : Hp} (eT : h.2.2 = T) (a : Nat) (x1 : Int32) (x2 : Int64) (x4 : Int32) (hA : IsX1 T a) {Q : Option Value → Hp → Prop} (hv : (((r_X4_isTurn x1) = true) → ((p_X4_madeOn (gJ h a 0) x1 x2 x4) ∧ (Q (some (.int (b2i false))) (sJ h a 0 (r_X4_madeOn (gJ h a 0) x1 x2 x4))))) ∧ (¬ ((r_X4_isTurn x1) = true) → ((((r_X4_findsColour x1 (gJ h a 0) x2) = true) → (CallV (d + 2) MX1_countOver [.ref a, .int x1] h (fun h33 => h33.2.2 = T ∧ ((inB (r_X6_get (gJ h33 a 0) (r_X4_from x1)) 16 = true) ∧ ((inB (r_X6_get (gJ h33 a 0) (r_X4_from x1)) 16 = true) ∧ ((p_X4_madeOn (gJ (sI (sI h33 (a + 1) ((r_X6_get (gJ h33 a 0) (r_X4_from x1)).toNatClampNeg) ((gI h33 (a + 1) ((r_X6_get (gJ h33 a 0) (r_X4_from x1)).toNatClampNeg)) + (nI 1))) a 2 ((gI (sI h33 (a + 1) ((r_X6_get (gJ h33 a 0) (r_X4_from x1)).toNatClampNeg) ((gI h33 (a + 1) ((r_X6_get (gJ h33 a 0) (r_X4_from x1)).toNatClampNeg)) + (nI 1))) a 2) + (nI 1))) a 0) x1 x2 x4) ∧ (Q (some (.int (b2i true))) (sJ (sI (sI h33 (a + 1) ((r_X6_get (gJ h33 a 0) (r_X4_from x1)).toNatClampNeg) ((gI h33 (a + 1) ((r_X6_get (gJ h33 a 0) (r_X4_from x1)).toNatClampNeg)) + (nI 1))) a 2 ((gI (sI h33 (a + 1) ((r_X6_get (gJ h33 a 0) (r_X4_from x1)).toNatClampNeg) ((gI h33 (a + 1) ((r_X6_get (gJ h33 a 0) (r_X4_from x1)).toNatClampNeg)) + (nI 1))) a 2) + (nI 1))) a 0 (r_X4_madeOn (gJ (sI (sI h33 (a + 1) ((r_X6_get (gJ h33 a 0) (r_X4_from x1)).toNatClampNeg) ((gI h33 (a + 1) ((r_X6_get (gJ h33 a 0) (r_X4_from x1)).toNatClampNeg)) + (nI 1))) a 2 ((gI (sI h33 (a + 1) ((r_X6_get (gJ h33 a 0) (r_X4_from x1)).toNatClampNeg) ((gI h33 (a + 1) ((r_X6_get (gJ h33 a 0) (r_X4_from x1)).toNatClampNeg)) + (nI 1))) a 2) + (nI 1))) a 0) x1 x2 x4))))))))) ∧ (¬ ((r_X4_findsColour x1 (gJ h a 0) x2) = true) → ((p_X4_madeOn (gJ h a 0) x1 x2 x4) ∧ (Q (some (.int (b2i false))) (sJ h a 0 (r_X4_madeOn (gJ h a 0) x1 x2 x4)))))))) : Call (d + 3) MX1_make [.ref a, .int x1, .long x2, .int x4] h Q := by
  show At (d + 3) MX1_make 0 [.ref a, .int x1, .long x2, un, .int x4, un] [] h Q
  refine At_iload_n (pc' := 1) iX1_make_0 rfl rfl ?_
  refine At_stat (pc' := 4) iX1_make_1 rfl m_1_64 rfl rfl (Nat.le_of_ble_eq_true rfl) (Nat.le_of_ble_eq_true rfl) (Nat.le_of_ble_eq_true rfl) ?_
  refine c_X4_isTurn (h := h) x1   (show At (d + 3) MX1_make 4 [.ref a, .int x1, .long x2, un, .int x4, un] [.int (b2i (r_X4_isTurn x1))] h Q from ?_)
  refine At_zne (t := 23) (pc' := 7) iX1_make_4 (by decide) rfl (fun c4 => ?_) (fun c4 => ?_)
  · have hv := hv.1 c4
    refine At_iconst (v := nI 0) (pc' := 24) iX1_make_23 rfl (by decide) ?_
    refine At_istore (L' := [.ref a, .int x1, .long x2, un, .int x4, .int (nI 0)]) (pc' := 26) iX1_make_24 rfl (Nat.le_of_ble_eq_true rfl) rfl ?_
    refine At_iload (pc' := 28) iX1_make_26 rfl rfl ?_
    refine At_if_eq (t := 66) (pc' := 31) iX1_make_28 (by decide) rfl (fun c28 => ?_) (fun c28 => absurd c28 (by decide))
    refine At_aload_n (pc' := 67) iX1_make_66 rfl rfl ?_
    refine At_aload_n (pc' := 68) iX1_make_67 rfl rfl ?_
    refine At_getJ (pc' := 71) iX1_make_68 rfl f_1_15 (kdK eT (X1_k0 hA)) (by decide) ?_
    refine At_iload_n (pc' := 72) iX1_make_71 rfl rfl ?_
    refine At_lload_n (pc' := 73) iX1_make_72 rfl rfl ?_
    refine At_iload (pc' := 75) iX1_make_73 rfl rfl ?_
    refine At_stat (pc' := 78) iX1_make_75 rfl m_1_86 rfl rfl (Nat.le_of_ble_eq_true rfl) (Nat.le_of_ble_eq_true rfl) (Nat.le_of_ble_eq_true rfl) ?_
    obtain ⟨hn1, hv⟩ := hv
    refine c_X4_madeOn (h := h) (gJ h a 0) x1 x2 x4  hn1 (show At (d + 3) MX1_make 78 [.ref a, .int x1, .long x2, un, .int x4, .int (nI 0)] [.long (r_X4_madeOn (gJ h a 0) x1 x2 x4), .ref a] h Q from ?_)
    refine At_putJ (pc' := 81) iX1_make_78 rfl f_1_15 (kdK eT (X1_k0 hA)) (Or.inl rfl) (by decide) ?_
    refine At_iload (pc' := 83) iX1_make_81 rfl rfl ?_
    exact At_retF iX1_make_83 rfl hv
  · have hv := hv.2 c4
    refine At_iload_n (pc' := 8) iX1_make_7 rfl rfl ?_
    refine At_aload_n (pc' := 9) iX1_make_8 rfl rfl ?_
    refine At_getJ (pc' := 12) iX1_make_9 rfl f_1_15 (kdK eT (X1_k0 hA)) (by decide) ?_
    refine At_lload_n (pc' := 13) iX1_make_12 rfl rfl ?_
    refine At_stat (pc' := 16) iX1_make_13 rfl m_1_70 rfl rfl (Nat.le_of_ble_eq_true rfl) (Nat.le_of_ble_eq_true rfl) (Nat.le_of_ble_eq_true rfl) ?_
    refine c_X4_findsColour (h := h) x1 (gJ h a 0) x2   (show At (d + 3) MX1_make 16 [.ref a, .int x1, .long x2, un, .int x4, un] [.int (b2i (r_X4_findsColour x1 (gJ h a 0) x2))] h Q from ?_)
    refine At_zeq (t := 23) (pc' := 19) iX1_make_16 (by decide) rfl (fun c16 => ?_) (fun c16 => ?_)
    · have hv := hv.2 c16
      refine At_iconst (v := nI 0) (pc' := 24) iX1_make_23 rfl (by decide) ?_
      refine At_istore (L' := [.ref a, .int x1, .long x2, un, .int x4, .int (nI 0)]) (pc' := 26) iX1_make_24 rfl (Nat.le_of_ble_eq_true rfl) rfl ?_
      refine At_iload (pc' := 28) iX1_make_26 rfl rfl ?_
      refine At_if_eq (t := 66) (pc' := 31) iX1_make_28 (by decide) rfl (fun c28 => ?_) (fun c28 => absurd c28 (by decide))
      refine At_aload_n (pc' := 67) iX1_make_66 rfl rfl ?_
      refine At_aload_n (pc' := 68) iX1_make_67 rfl rfl ?_
      refine At_getJ (pc' := 71) iX1_make_68 rfl f_1_15 (kdK eT (X1_k0 hA)) (by decide) ?_
      refine At_iload_n (pc' := 72) iX1_make_71 rfl rfl ?_
      refine At_lload_n (pc' := 73) iX1_make_72 rfl rfl ?_
      refine At_iload (pc' := 75) iX1_make_73 rfl rfl ?_
      refine At_stat (pc' := 78) iX1_make_75 rfl m_1_86 rfl rfl (Nat.le_of_ble_eq_true rfl) (Nat.le_of_ble_eq_true rfl) (Nat.le_of_ble_eq_true rfl) ?_
      obtain ⟨hn2, hv⟩ := hv
      refine c_X4_madeOn (h := h) (gJ h a 0) x1 x2 x4  hn2 (show At (d + 3) MX1_make 78 [.ref a, .int x1, .long x2, un, .int x4, .int (nI 0)] [.long (r_X4_madeOn (gJ h a 0) x1 x2 x4), .ref a] h Q from ?_)
      refine At_putJ (pc' := 81) iX1_make_78 rfl f_1_15 (kdK eT (X1_k0 hA)) (Or.inl rfl) (by decide) ?_
      refine At_iload (pc' := 83) iX1_make_81 rfl rfl ?_
      exact At_retF iX1_make_83 rfl hv
    · have hv := hv.1 c16
      refine At_iconst (v := nI 1) (pc' := 20) iX1_make_19 rfl (by decide) ?_
      refine At_goto (t := 24) iX1_make_20 (by decide) ?_
      refine At_istore (L' := [.ref a, .int x1, .long x2, un, .int x4, .int (nI 1)]) (pc' := 26) iX1_make_24 rfl (Nat.le_of_ble_eq_true rfl) rfl ?_
      refine At_iload (pc' := 28) iX1_make_26 rfl rfl ?_
      refine At_if_eq (t := 66) (pc' := 31) iX1_make_28 (by decide) rfl (fun c28 => absurd c28 (by decide)) (fun c28 => ?_)
      refine At_aload_n (pc' := 32) iX1_make_31 rfl rfl ?_
      refine At_iload_n (pc' := 33) iX1_make_32 rfl rfl ?_
      refine At_virt (pc' := 36) iX1_make_33 rfl m_1_74 rfl rfl (kdK eT (X1_k0 hA)) (Nat.le_of_ble_eq_true rfl) (Nat.le_of_ble_eq_true rfl) ?_
      refine At.mono (show CallV (d + 2) MX1_countOver [.ref a, .int x1] h _ from hv) ?_
      rintro _ h33 ⟨rfl, eT33, hv⟩
      show At (d + 3) MX1_make 36 [.ref a, .int x1, .long x2, un, .int x4, .int (nI 1)] [] h33 Q
      refine At_aload_n (pc' := 37) iX1_make_36 rfl rfl ?_
      refine At_getR (pc' := 40) iX1_make_37 rfl f_1_31 (kdK eT33 (X1_k0 hA)) (by decide) (rfH eT33 (X1_r4 hA)) ?_
      refine At_aload_n (pc' := 41) iX1_make_40 rfl rfl ?_
      refine At_getJ (pc' := 44) iX1_make_41 rfl f_1_15 (kdK eT33 (X1_k0 hA)) (by decide) ?_
      refine At_iload_n (pc' := 45) iX1_make_44 rfl rfl ?_
      refine At_stat (pc' := 48) iX1_make_45 rfl m_1_78 rfl rfl (Nat.le_of_ble_eq_true rfl) (Nat.le_of_ble_eq_true rfl) (Nat.le_of_ble_eq_true rfl) ?_
      refine c_X4_from (h := h33) x1   (show At (d + 3) MX1_make 48 [.ref a, .int x1, .long x2, un, .int x4, .int (nI 1)] [.int (r_X4_from x1), .long (gJ h33 a 0), .ref (a + 1)] h33 Q from ?_)
      refine At_stat (pc' := 51) iX1_make_48 rfl m_1_82 rfl rfl (Nat.le_of_ble_eq_true rfl) (Nat.le_of_ble_eq_true rfl) (Nat.le_of_ble_eq_true rfl) ?_
      refine c_X6_get (h := h33) (gJ h33 a 0) (r_X4_from x1)   (show At (d + 3) MX1_make 51 [.ref a, .int x1, .long x2, un, .int x4, .int (nI 1)] [.int (r_X6_get (gJ h33 a 0) (r_X4_from x1)), .ref (a + 1)] h33 Q from ?_)
      refine At_dup2 (pc' := 52) iX1_make_51 rfl rfl rfl ?_
      obtain ⟨hn3, hv⟩ := hv
      refine At_iald (pc' := 53) iX1_make_52 rfl (kdH eT33 (X1_k1 hA)) hn3 (show At (d + 3) MX1_make 53 [.ref a, .int x1, .long x2, un, .int x4, .int (nI 1)] [.int (gI h33 (a + 1) ((r_X6_get (gJ h33 a 0) (r_X4_from x1)).toNatClampNeg)), .int (r_X6_get (gJ h33 a 0) (r_X4_from x1)), .ref (a + 1)] h33 Q from ?_)
      refine At_iconst (v := nI 1) (pc' := 54) iX1_make_53 rfl (by decide) ?_
      refine At_iadd (pc' := 55) iX1_make_54 rfl ?_
      obtain ⟨hn4, hv⟩ := hv
      refine At_iast (pc' := 56) iX1_make_55 rfl (kdH eT33 (X1_k1 hA)) hn4 (show At (d + 3) MX1_make 56 [.ref a, .int x1, .long x2, un, .int x4, .int (nI 1)] [] (sI h33 (a + 1) ((r_X6_get (gJ h33 a 0) (r_X4_from x1)).toNatClampNeg) ((gI h33 (a + 1) ((r_X6_get (gJ h33 a 0) (r_X4_from x1)).toNatClampNeg)) + (nI 1))) Q from ?_)
      refine At_aload_n (pc' := 57) iX1_make_56 rfl rfl ?_
      refine At_dup (pc' := 58) iX1_make_57 rfl rfl ?_
      refine At_getI (pc' := 61) iX1_make_58 rfl f_1_25 (kdK eT33 (X1_k0 hA)) (by decide) ?_
      refine At_iconst (v := nI 1) (pc' := 62) iX1_make_61 rfl (by decide) ?_
      refine At_iadd (pc' := 63) iX1_make_62 rfl ?_
      refine At_putI (pc' := 66) iX1_make_63 rfl f_1_25 (kdK eT33 (X1_k0 hA)) (Or.inl rfl) (by decide) ?_
      refine At_aload_n (pc' := 67) iX1_make_66 rfl rfl ?_
      refine At_aload_n (pc' := 68) iX1_make_67 rfl rfl ?_
      refine At_getJ (pc' := 71) iX1_make_68 rfl f_1_15 (kdK eT33 (X1_k0 hA)) (by decide) ?_
      refine At_iload_n (pc' := 72) iX1_make_71 rfl rfl ?_
      refine At_lload_n (pc' := 73) iX1_make_72 rfl rfl ?_
      refine At_iload (pc' := 75) iX1_make_73 rfl rfl ?_
      refine At_stat (pc' := 78) iX1_make_75 rfl m_1_86 rfl rfl (Nat.le_of_ble_eq_true rfl) (Nat.le_of_ble_eq_true rfl) (Nat.le_of_ble_eq_true rfl) ?_
      obtain ⟨hn5, hv⟩ := hv
      refine c_X4_madeOn (h := sI (sI h33 (a + 1) ((r_X6_get (gJ h33 a 0) (r_X4_from x1)).toNatClampNeg) ((gI h33 (a + 1) ((r_X6_get (gJ h33 a 0) (r_X4_from x1)).toNatClampNeg)) + (nI 1))) a 2 ((gI (sI h33 (a + 1) ((r_X6_get (gJ h33 a 0) (r_X4_from x1)).toNatClampNeg) ((gI h33 (a + 1) ((r_X6_get (gJ h33 a 0) (r_X4_from x1)).toNatClampNeg)) + (nI 1))) a 2) + (nI 1))) (gJ (sI (sI h33 (a + 1) ((r_X6_get (gJ h33 a 0) (r_X4_from x1)).toNatClampNeg) ((gI h33 (a + 1) ((r_X6_get (gJ h33 a 0) (r_X4_from x1)).toNatClampNeg)) + (nI 1))) a 2 ((gI (sI h33 (a + 1) ((r_X6_get (gJ h33 a 0) (r_X4_from x1)).toNatClampNeg) ((gI h33 (a + 1) ((r_X6_get (gJ h33 a 0) (r_X4_from x1)).toNatClampNeg)) + (nI 1))) a 2) + (nI 1))) a 0) x1 x2 x4  hn5 (show At (d + 3) MX1_make 78 [.ref a, .int x1, .long x2, un, .int x4, .int (nI 1)] [.long (r_X4_madeOn (gJ (sI (sI h33 (a + 1) ((r_X6_get (gJ h33 a 0) (r_X4_from x1)).toNatClampNeg) ((gI h33 (a + 1) ((r_X6_get (gJ h33 a 0) (r_X4_from x1)).toNatClampNeg)) + (nI 1))) a 2 ((gI (sI h33 (a + 1) ((r_X6_get (gJ h33 a 0) (r_X4_from x1)).toNatClampNeg) ((gI h33 (a + 1) ((r_X6_get (gJ h33 a 0) (r_X4_from x1)).toNatClampNeg)) + (nI 1))) a 2) + (nI 1))) a 0) x1 x2 x4), .ref a] (sI (sI h33 (a + 1) ((r_X6_get (gJ h33 a 0) (r_X4_from x1)).toNatClampNeg) ((gI h33 (a + 1) ((r_X6_get (gJ h33 a 0) (r_X4_from x1)).toNatClampNeg)) + (nI 1))) a 2 ((gI (sI h33 (a + 1) ((r_X6_get (gJ h33 a 0) (r_X4_from x1)).toNatClampNeg) ((gI h33 (a + 1) ((r_X6_get (gJ h33 a 0) (r_X4_from x1)).toNatClampNeg)) + (nI 1))) a 2) + (nI 1))) Q from ?_)
      refine At_putJ (pc' := 81) iX1_make_78 rfl f_1_15 (kdK eT33 (X1_k0 hA)) (Or.inl rfl) (by decide) ?_
      refine At_iload (pc' := 83) iX1_make_81 rfl rfl ?_
      exact At_retT iX1_make_83 rfl hv
-- X3_needed (calls X3_isSameColours)
set_option maxRecDepth 20000 in
theorem b_X3_needed {d : Nat} {T : HT} (hL : Lay T) {h : Hp} (eT : h.2.2 = T) (x1 : Int64) (x3 : Int64) (x5 : Int32)  {Q : Option Value → Hp → Prop} (hv : (((nI 7) < x5) → (Q (some (.int (-1))) h)) ∧ (¬ ((nI 7) < x5) → (CallZ (d + 2) MX3_isSameColours [.long x1, .long x3, .int x5] h (fun r11 h11 => h11.2.2 = T ∧ (((r11 = true) → (CallI (d + 2) MX3_longestCommon [.ref 48, .long x1, .long x3, .int x5] h11 (fun r26 h26 => h26.2.2 = T ∧ (Q (some (.int (x5 - r26))) h26)))) ∧ (¬ (r11 = true) → (Q (some (.int (-1))) h11))))))) : Call (d + 3) MX3_needed [.ref 48, .long x1, .long x3, .int x5] h Q := by
  show At (d + 3) MX3_needed 0 [.ref 48, .long x1, un, .long x3, un, .int x5] [] h Q
  refine At_iload (pc' := 2) iX3_needed_0 rfl rfl ?_
  refine At_bipush (v := nI 7) (pc' := 4) iX3_needed_2 rfl (by decide) ?_
  refine At_icmp_gt (t := 17) (pc' := 7) iX3_needed_4 (by decide) rfl (fun c4 => ?_) (fun c4 => ?_)
  · have hv := hv.1 c4
    refine At_iconst (v := (-1)) (pc' := 18) iX3_needed_17 rfl (by decide) ?_
    exact At_retI iX3_needed_18 rfl hv
  · have hv := hv.2 c4
    refine At_lload_n (pc' := 8) iX3_needed_7 rfl rfl ?_
    refine At_lload_n (pc' := 9) iX3_needed_8 rfl rfl ?_
    refine At_iload (pc' := 11) iX3_needed_9 rfl rfl ?_
    refine At_stat (pc' := 14) iX3_needed_11 rfl m_3_15 rfl rfl (Nat.le_of_ble_eq_true rfl) (Nat.le_of_ble_eq_true rfl) (Nat.le_of_ble_eq_true rfl) ?_
    refine At.mono (show CallZ (d + 2) MX3_isSameColours [.long x1, .long x3, .int x5] h _ from hv) ?_
    rintro _ h11 ⟨r11, rfl, eT11, hv⟩
    show At (d + 3) MX3_needed 14 [.ref 48, .long x1, un, .long x3, un, .int x5] [.int (b2i r11)] h11 Q
    refine At_zne (t := 19) (pc' := 17) iX3_needed_14 (by decide) rfl (fun c14 => ?_) (fun c14 => ?_)
    · have hv := hv.1 c14
      refine At_iload (pc' := 21) iX3_needed_19 rfl rfl ?_
      refine At_aload_n (pc' := 22) iX3_needed_21 rfl rfl ?_
      refine At_lload_n (pc' := 23) iX3_needed_22 rfl rfl ?_
      refine At_lload_n (pc' := 24) iX3_needed_23 rfl rfl ?_
      refine At_iload (pc' := 26) iX3_needed_24 rfl rfl ?_
      refine At_virt (pc' := 29) iX3_needed_26 rfl m_3_19 rfl rfl (kdK eT11 (kd_48 hL)) (Nat.le_of_ble_eq_true rfl) (Nat.le_of_ble_eq_true rfl) ?_
      refine At.mono (show CallI (d + 2) MX3_longestCommon [.ref 48, .long x1, .long x3, .int x5] h11 _ from hv) ?_
      rintro _ h26 ⟨r26, rfl, eT26, hv⟩
      show At (d + 3) MX3_needed 29 [.ref 48, .long x1, un, .long x3, un, .int x5] [.int r26, .int x5] h26 Q
      refine At_isub (pc' := 30) iX3_needed_29 rfl ?_
      exact At_retI iX3_needed_30 rfl hv
    · have hv := hv.2 c14
      refine At_iconst (v := (-1)) (pc' := 18) iX3_needed_17 rfl (by decide) ?_
      exact At_retI iX3_needed_18 rfl hv
-- X5_readAsked (by choice)
set_option maxRecDepth 20000 in
theorem b_X5_readAsked {d : Nat} {T : HT} (hL : Lay T) {h : Hp} (eT : h.2.2 = T) (x1 : Int32) (x2 : Int32) (x3 : Int32)  {Q : Option Value → Hp → Prop} (hv : (p_X5_take h) ∧ ((((gI (w_X5_take h) 2 6) = (nI 8)) → (CallZ (d + 2) MX5_readNumber [.ref 2, .int (nI 0), .int (nI 9)] (w_X5_take h) (fun r20 h20 => h20.2.2 = T ∧ (((r20 = true) → ((p_X5_take h20) ∧ ((((gI (w_X5_take h20) 2 6) = (nI 3)) → ((p_X5_append (r_X4_packed x1 x2 x3 (gI h20 2 7)) (w_X5_take h20)) ∧ (Q (some (.int (b2i true))) (w_X5_append (r_X4_packed x1 x2 x3 (gI h20 2 7)) (w_X5_take h20))))) ∧ (¬ ((gI (w_X5_take h20) 2 6) = (nI 3)) → ((p_X5_fail (nI 1) (w_X5_take h20)) ∧ (Q (some (.int (b2i (r_X5_fail (nI 1) (w_X5_take h20))))) (w_X5_fail (nI 1) (w_X5_take h20)))))))) ∧ (¬ (r20 = true) → (Q (some (.int (b2i false))) h20)))))) ∧ (¬ ((gI (w_X5_take h) 2 6) = (nI 8)) → ((((gI (w_X5_take h) 2 6) = (nI 3)) → ((p_X5_append (r_X4_packed x1 x2 x3 (-1)) (w_X5_take h)) ∧ (Q (some (.int (b2i true))) (w_X5_append (r_X4_packed x1 x2 x3 (-1)) (w_X5_take h))))) ∧ (¬ ((gI (w_X5_take h) 2 6) = (nI 3)) → ((p_X5_fail (nI 1) (w_X5_take h)) ∧ (Q (some (.int (b2i (r_X5_fail (nI 1) (w_X5_take h))))) (w_X5_fail (nI 1) (w_X5_take h))))))))) : Call (d + 3) MX5_readAsked [.ref 2, .int x1, .int x2, .int x3] h Q := by
  show At (d + 3) MX5_readAsked 0 [.ref 2, .int x1, .int x2, .int x3, un] [] h Q
  refine At_iconst (v := (-1)) (pc' := 1) iX5_readAsked_0 rfl (by decide) ?_
  refine At_istore (L' := [.ref 2, .int x1, .int x2, .int x3, .int (-1)]) (pc' := 3) iX5_readAsked_1 rfl (Nat.le_of_ble_eq_true rfl) rfl ?_
  refine At_aload_n (pc' := 4) iX5_readAsked_3 rfl rfl ?_
  refine At_virt (pc' := 7) iX5_readAsked_4 rfl m_5_67 rfl rfl (kdK eT (kd_2 hL)) (Nat.le_of_ble_eq_true rfl) (Nat.le_of_ble_eq_true rfl) ?_
  obtain ⟨hn1, hv⟩ := hv
  refine c_X5_take (h := h) hL eT   hn1 (show At (d + 3) MX5_readAsked 7 [.ref 2, .int x1, .int x2, .int x3, .int (-1)] [] (w_X5_take h) Q from ?_)
  refine At_aload_n (pc' := 8) iX5_readAsked_7 rfl rfl ?_
  refine At_getI (pc' := 11) iX5_readAsked_8 rfl f_5_38 (kdK ((wT_X5_take h).trans eT) (kd_2 hL)) (by decide) ?_
  refine At_bipush (v := nI 8) (pc' := 13) iX5_readAsked_11 rfl (by decide) ?_
  refine At_icmp_ne (t := 38) (pc' := 16) iX5_readAsked_13 (by decide) rfl (fun c13 => ?_) (fun c13 => ?_)
  · have hv := hv.2 c13
    refine At_aload_n (pc' := 39) iX5_readAsked_38 rfl rfl ?_
    refine At_getI (pc' := 42) iX5_readAsked_39 rfl f_5_38 (kdK ((wT_X5_take h).trans eT) (kd_2 hL)) (by decide) ?_
    refine At_iconst (v := nI 3) (pc' := 43) iX5_readAsked_42 rfl (by decide) ?_
    refine At_icmp_eq (t := 52) (pc' := 46) iX5_readAsked_43 (by decide) rfl (fun c43 => ?_) (fun c43 => ?_)
    · have hv := hv.1 c43
      refine At_aload_n (pc' := 53) iX5_readAsked_52 rfl rfl ?_
      refine At_iload_n (pc' := 54) iX5_readAsked_53 rfl rfl ?_
      refine At_iload_n (pc' := 55) iX5_readAsked_54 rfl rfl ?_
      refine At_iload_n (pc' := 56) iX5_readAsked_55 rfl rfl ?_
      refine At_iload (pc' := 58) iX5_readAsked_56 rfl rfl ?_
      refine At_stat (pc' := 61) iX5_readAsked_58 rfl m_5_115 rfl rfl (Nat.le_of_ble_eq_true rfl) (Nat.le_of_ble_eq_true rfl) (Nat.le_of_ble_eq_true rfl) ?_
      refine c_X4_packed (h := w_X5_take h) x1 x2 x3 (-1)   (show At (d + 3) MX5_readAsked 61 [.ref 2, .int x1, .int x2, .int x3, .int (-1)] [.int (r_X4_packed x1 x2 x3 (-1)), .ref 2] (w_X5_take h) Q from ?_)
      refine At_virt (pc' := 64) iX5_readAsked_61 rfl m_5_119 rfl rfl (kdK ((wT_X5_take h).trans eT) (kd_2 hL)) (Nat.le_of_ble_eq_true rfl) (Nat.le_of_ble_eq_true rfl) ?_
      obtain ⟨hn2, hv⟩ := hv
      refine c_X5_append (h := w_X5_take h) hL ((wT_X5_take h).trans eT) (r_X4_packed x1 x2 x3 (-1))  hn2 (show At (d + 3) MX5_readAsked 64 [.ref 2, .int x1, .int x2, .int x3, .int (-1)] [] (w_X5_append (r_X4_packed x1 x2 x3 (-1)) (w_X5_take h)) Q from ?_)
      refine At_iconst (v := nI 1) (pc' := 65) iX5_readAsked_64 rfl (by decide) ?_
      exact At_retT iX5_readAsked_65 rfl hv
    · have hv := hv.2 c43
      refine At_aload_n (pc' := 47) iX5_readAsked_46 rfl rfl ?_
      refine At_iconst (v := nI 1) (pc' := 48) iX5_readAsked_47 rfl (by decide) ?_
      refine At_virt (pc' := 51) iX5_readAsked_48 rfl m_5_89 rfl rfl (kdK ((wT_X5_take h).trans eT) (kd_2 hL)) (Nat.le_of_ble_eq_true rfl) (Nat.le_of_ble_eq_true rfl) ?_
      obtain ⟨hn3, hv⟩ := hv
      refine c_X5_fail (h := w_X5_take h) hL ((wT_X5_take h).trans eT) (nI 1)  hn3 (show At (d + 3) MX5_readAsked 51 [.ref 2, .int x1, .int x2, .int x3, .int (-1)] [.int (b2i (r_X5_fail (nI 1) (w_X5_take h)))] (w_X5_fail (nI 1) (w_X5_take h)) Q from ?_)
      exact At_retZ iX5_readAsked_51 rfl (b2i_01 _) hv
  · have hv := hv.1 c13
    refine At_aload_n (pc' := 17) iX5_readAsked_16 rfl rfl ?_
    refine At_iconst (v := nI 0) (pc' := 18) iX5_readAsked_17 rfl (by decide) ?_
    refine At_bipush (v := nI 9) (pc' := 20) iX5_readAsked_18 rfl (by decide) ?_
    refine At_virt (pc' := 23) iX5_readAsked_20 rfl m_5_105 rfl rfl (kdK ((wT_X5_take h).trans eT) (kd_2 hL)) (Nat.le_of_ble_eq_true rfl) (Nat.le_of_ble_eq_true rfl) ?_
    refine At.mono (show CallZ (d + 2) MX5_readNumber [.ref 2, .int (nI 0), .int (nI 9)] (w_X5_take h) _ from hv) ?_
    rintro _ h20 ⟨r20, rfl, eT20, hv⟩
    show At (d + 3) MX5_readAsked 23 [.ref 2, .int x1, .int x2, .int x3, .int (-1)] [.int (b2i r20)] h20 Q
    refine At_zne (t := 28) (pc' := 26) iX5_readAsked_23 (by decide) rfl (fun c23 => ?_) (fun c23 => ?_)
    · have hv := hv.1 c23
      refine At_aload_n (pc' := 29) iX5_readAsked_28 rfl rfl ?_
      refine At_getI (pc' := 32) iX5_readAsked_29 rfl f_5_41 (kdK eT20 (kd_2 hL)) (by decide) ?_
      refine At_istore (L' := [.ref 2, .int x1, .int x2, .int x3, .int (gI h20 2 7)]) (pc' := 34) iX5_readAsked_32 rfl (Nat.le_of_ble_eq_true rfl) rfl ?_
      refine At_aload_n (pc' := 35) iX5_readAsked_34 rfl rfl ?_
      refine At_virt (pc' := 38) iX5_readAsked_35 rfl m_5_67 rfl rfl (kdK eT20 (kd_2 hL)) (Nat.le_of_ble_eq_true rfl) (Nat.le_of_ble_eq_true rfl) ?_
      obtain ⟨hn4, hv⟩ := hv
      refine c_X5_take (h := h20) hL eT20   hn4 (show At (d + 3) MX5_readAsked 38 [.ref 2, .int x1, .int x2, .int x3, .int (gI h20 2 7)] [] (w_X5_take h20) Q from ?_)
      refine At_aload_n (pc' := 39) iX5_readAsked_38 rfl rfl ?_
      refine At_getI (pc' := 42) iX5_readAsked_39 rfl f_5_38 (kdK ((wT_X5_take h20).trans eT20) (kd_2 hL)) (by decide) ?_
      refine At_iconst (v := nI 3) (pc' := 43) iX5_readAsked_42 rfl (by decide) ?_
      refine At_icmp_eq (t := 52) (pc' := 46) iX5_readAsked_43 (by decide) rfl (fun c43 => ?_) (fun c43 => ?_)
      · have hv := hv.1 c43
        refine At_aload_n (pc' := 53) iX5_readAsked_52 rfl rfl ?_
        refine At_iload_n (pc' := 54) iX5_readAsked_53 rfl rfl ?_
        refine At_iload_n (pc' := 55) iX5_readAsked_54 rfl rfl ?_
        refine At_iload_n (pc' := 56) iX5_readAsked_55 rfl rfl ?_
        refine At_iload (pc' := 58) iX5_readAsked_56 rfl rfl ?_
        refine At_stat (pc' := 61) iX5_readAsked_58 rfl m_5_115 rfl rfl (Nat.le_of_ble_eq_true rfl) (Nat.le_of_ble_eq_true rfl) (Nat.le_of_ble_eq_true rfl) ?_
        refine c_X4_packed (h := w_X5_take h20) x1 x2 x3 (gI h20 2 7)   (show At (d + 3) MX5_readAsked 61 [.ref 2, .int x1, .int x2, .int x3, .int (gI h20 2 7)] [.int (r_X4_packed x1 x2 x3 (gI h20 2 7)), .ref 2] (w_X5_take h20) Q from ?_)
        refine At_virt (pc' := 64) iX5_readAsked_61 rfl m_5_119 rfl rfl (kdK ((wT_X5_take h20).trans eT20) (kd_2 hL)) (Nat.le_of_ble_eq_true rfl) (Nat.le_of_ble_eq_true rfl) ?_
        obtain ⟨hn5, hv⟩ := hv
        refine c_X5_append (h := w_X5_take h20) hL ((wT_X5_take h20).trans eT20) (r_X4_packed x1 x2 x3 (gI h20 2 7))  hn5 (show At (d + 3) MX5_readAsked 64 [.ref 2, .int x1, .int x2, .int x3, .int (gI h20 2 7)] [] (w_X5_append (r_X4_packed x1 x2 x3 (gI h20 2 7)) (w_X5_take h20)) Q from ?_)
        refine At_iconst (v := nI 1) (pc' := 65) iX5_readAsked_64 rfl (by decide) ?_
        exact At_retT iX5_readAsked_65 rfl hv
      · have hv := hv.2 c43
        refine At_aload_n (pc' := 47) iX5_readAsked_46 rfl rfl ?_
        refine At_iconst (v := nI 1) (pc' := 48) iX5_readAsked_47 rfl (by decide) ?_
        refine At_virt (pc' := 51) iX5_readAsked_48 rfl m_5_89 rfl rfl (kdK ((wT_X5_take h20).trans eT20) (kd_2 hL)) (Nat.le_of_ble_eq_true rfl) (Nat.le_of_ble_eq_true rfl) ?_
        obtain ⟨hn6, hv⟩ := hv
        refine c_X5_fail (h := w_X5_take h20) hL ((wT_X5_take h20).trans eT20) (nI 1)  hn6 (show At (d + 3) MX5_readAsked 51 [.ref 2, .int x1, .int x2, .int x3, .int (gI h20 2 7)] [.int (b2i (r_X5_fail (nI 1) (w_X5_take h20)))] (w_X5_fail (nI 1) (w_X5_take h20)) Q from ?_)
        exact At_retZ iX5_readAsked_51 rfl (b2i_01 _) hv
    · have hv := hv.2 c23
      refine At_iconst (v := nI 0) (pc' := 27) iX5_readAsked_26 rfl (by decide) ?_
      exact At_retF iX5_readAsked_27 rfl hv
-- X5_readTimes (by choice)
set_option maxRecDepth 20000 in
theorem b_X5_readTimes {d : Nat} {T : HT} (hL : Lay T) {h : Hp} (eT : h.2.2 = T)   {Q : Option Value → Hp → Prop} (hv : (((gI h 2 9) < (nI 4)) → (CallZ (d + 2) MX5_readNumber [.ref 2, .int (nI 1), .int (nI 9)] h (fun r18 h18 => h18.2.2 = T ∧ (((r18 = true) → ((inB (gI h18 2 9) 4 = true) ∧ ((inB (gI (sI h18 11 ((gI h18 2 9).toNatClampNeg) (gI h18 2 7)) 2 9) 4 = true) ∧ (CallZ (d + 2) MX5_readToken [.ref 2, .int (nI 4)] (sI (sI (sI h18 11 ((gI h18 2 9).toNatClampNeg) (gI h18 2 7)) 10 ((gI (sI h18 11 ((gI h18 2 9).toNatClampNeg) (gI h18 2 7)) 2 9).toNatClampNeg) (gI (sI h18 11 ((gI h18 2 9).toNatClampNeg) (gI h18 2 7)) 8 0)) 2 9 ((gI (sI (sI h18 11 ((gI h18 2 9).toNatClampNeg) (gI h18 2 7)) 10 ((gI (sI h18 11 ((gI h18 2 9).toNatClampNeg) (gI h18 2 7)) 2 9).toNatClampNeg) (gI (sI h18 11 ((gI h18 2 9).toNatClampNeg) (gI h18 2 7)) 8 0)) 2 9) + (nI 1))) (fun r67 h67 => h67.2.2 = T ∧ (Q (some (.int (b2i r67))) h67)))))) ∧ (¬ (r18 = true) → (Q (some (.int (b2i false))) h18)))))) ∧ (¬ ((gI h 2 9) < (nI 4)) → ((p_X5_fail (nI 3) h) ∧ (Q (some (.int (b2i (r_X5_fail (nI 3) h)))) (w_X5_fail (nI 3) h))))) : Call (d + 3) MX5_readTimes [.ref 2] h Q := by
  show At (d + 3) MX5_readTimes 0 [.ref 2] [] h Q
  refine At_aload_n (pc' := 1) iX5_readTimes_0 rfl rfl ?_
  refine At_getI (pc' := 4) iX5_readTimes_1 rfl f_5_48 (kdK eT (kd_2 hL)) (by decide) ?_
  refine At_iconst (v := nI 4) (pc' := 5) iX5_readTimes_4 rfl (by decide) ?_
  refine At_icmp_lt (t := 14) (pc' := 8) iX5_readTimes_5 (by decide) rfl (fun c5 => ?_) (fun c5 => ?_)
  · have hv := hv.1 c5
    refine At_aload_n (pc' := 15) iX5_readTimes_14 rfl rfl ?_
    refine At_iconst (v := nI 1) (pc' := 16) iX5_readTimes_15 rfl (by decide) ?_
    refine At_bipush (v := nI 9) (pc' := 18) iX5_readTimes_16 rfl (by decide) ?_
    refine At_virt (pc' := 21) iX5_readTimes_18 rfl m_5_105 rfl rfl (kdK eT (kd_2 hL)) (Nat.le_of_ble_eq_true rfl) (Nat.le_of_ble_eq_true rfl) ?_
    refine At.mono (show CallZ (d + 2) MX5_readNumber [.ref 2, .int (nI 1), .int (nI 9)] h _ from hv) ?_
    rintro _ h18 ⟨r18, rfl, eT18, hv⟩
    show At (d + 3) MX5_readTimes 21 [.ref 2] [.int (b2i r18)] h18 Q
    refine At_zne (t := 26) (pc' := 24) iX5_readTimes_21 (by decide) rfl (fun c21 => ?_) (fun c21 => ?_)
    · have hv := hv.1 c21
      refine At_aload_n (pc' := 27) iX5_readTimes_26 rfl rfl ?_
      refine At_getR (pc' := 30) iX5_readTimes_27 rfl f_5_55 (kdK eT18 (kd_2 hL)) (by decide) (rfH eT18 (rf_2_11 hL)) ?_
      refine At_aload_n (pc' := 31) iX5_readTimes_30 rfl rfl ?_
      refine At_getI (pc' := 34) iX5_readTimes_31 rfl f_5_48 (kdK eT18 (kd_2 hL)) (by decide) ?_
      refine At_aload_n (pc' := 35) iX5_readTimes_34 rfl rfl ?_
      refine At_getI (pc' := 38) iX5_readTimes_35 rfl f_5_41 (kdK eT18 (kd_2 hL)) (by decide) ?_
      obtain ⟨hn1, hv⟩ := hv
      refine At_iast (pc' := 39) iX5_readTimes_38 rfl (kdH eT18 (kd_11 hL)) hn1 (show At (d + 3) MX5_readTimes 39 [.ref 2] [] (sI h18 11 ((gI h18 2 9).toNatClampNeg) (gI h18 2 7)) Q from ?_)
      refine At_aload_n (pc' := 40) iX5_readTimes_39 rfl rfl ?_
      refine At_getR (pc' := 43) iX5_readTimes_40 rfl f_5_51 (kdK eT18 (kd_2 hL)) (by decide) (rfH eT18 (rf_2_10 hL)) ?_
      refine At_aload_n (pc' := 44) iX5_readTimes_43 rfl rfl ?_
      refine At_getI (pc' := 47) iX5_readTimes_44 rfl f_5_48 (kdK eT18 (kd_2 hL)) (by decide) ?_
      refine At_aload_n (pc' := 48) iX5_readTimes_47 rfl rfl ?_
      refine At_getR (pc' := 51) iX5_readTimes_48 rfl f_5_28 (kdK eT18 (kd_2 hL)) (by decide) (rfH eT18 (rf_2_3 hL)) ?_
      refine At_getI (pc' := 54) iX5_readTimes_51 rfl f_5_61 (kdK eT18 (kd_8 hL)) (by decide) ?_
      obtain ⟨hn2, hv⟩ := hv
      refine At_iast (pc' := 55) iX5_readTimes_54 rfl (kdH eT18 (kd_10 hL)) hn2 (show At (d + 3) MX5_readTimes 55 [.ref 2] [] (sI (sI h18 11 ((gI h18 2 9).toNatClampNeg) (gI h18 2 7)) 10 ((gI (sI h18 11 ((gI h18 2 9).toNatClampNeg) (gI h18 2 7)) 2 9).toNatClampNeg) (gI (sI h18 11 ((gI h18 2 9).toNatClampNeg) (gI h18 2 7)) 8 0)) Q from ?_)
      refine At_aload_n (pc' := 56) iX5_readTimes_55 rfl rfl ?_
      refine At_dup (pc' := 57) iX5_readTimes_56 rfl rfl ?_
      refine At_getI (pc' := 60) iX5_readTimes_57 rfl f_5_48 (kdK eT18 (kd_2 hL)) (by decide) ?_
      refine At_iconst (v := nI 1) (pc' := 61) iX5_readTimes_60 rfl (by decide) ?_
      refine At_iadd (pc' := 62) iX5_readTimes_61 rfl ?_
      refine At_putI (pc' := 65) iX5_readTimes_62 rfl f_5_48 (kdK eT18 (kd_2 hL)) (Or.inl rfl) (by decide) ?_
      refine At_aload_n (pc' := 66) iX5_readTimes_65 rfl rfl ?_
      refine At_iconst (v := nI 4) (pc' := 67) iX5_readTimes_66 rfl (by decide) ?_
      refine At_virt (pc' := 70) iX5_readTimes_67 rfl m_5_102 rfl rfl (kdK eT18 (kd_2 hL)) (Nat.le_of_ble_eq_true rfl) (Nat.le_of_ble_eq_true rfl) ?_
      refine At.mono (show CallZ (d + 2) MX5_readToken [.ref 2, .int (nI 4)] (sI (sI (sI h18 11 ((gI h18 2 9).toNatClampNeg) (gI h18 2 7)) 10 ((gI (sI h18 11 ((gI h18 2 9).toNatClampNeg) (gI h18 2 7)) 2 9).toNatClampNeg) (gI (sI h18 11 ((gI h18 2 9).toNatClampNeg) (gI h18 2 7)) 8 0)) 2 9 ((gI (sI (sI h18 11 ((gI h18 2 9).toNatClampNeg) (gI h18 2 7)) 10 ((gI (sI h18 11 ((gI h18 2 9).toNatClampNeg) (gI h18 2 7)) 2 9).toNatClampNeg) (gI (sI h18 11 ((gI h18 2 9).toNatClampNeg) (gI h18 2 7)) 8 0)) 2 9) + (nI 1))) _ from hv) ?_
      rintro _ h67 ⟨r67, rfl, eT67, hv⟩
      show At (d + 3) MX5_readTimes 70 [.ref 2] [.int (b2i r67)] h67 Q
      exact At_retZ iX5_readTimes_70 rfl (b2i_01 _) hv
    · have hv := hv.2 c21
      refine At_iconst (v := nI 0) (pc' := 25) iX5_readTimes_24 rfl (by decide) ?_
      exact At_retF iX5_readTimes_25 rfl hv
  · have hv := hv.2 c5
    refine At_aload_n (pc' := 9) iX5_readTimes_8 rfl rfl ?_
    refine At_iconst (v := nI 3) (pc' := 10) iX5_readTimes_9 rfl (by decide) ?_
    refine At_virt (pc' := 13) iX5_readTimes_10 rfl m_5_89 rfl rfl (kdK eT (kd_2 hL)) (Nat.le_of_ble_eq_true rfl) (Nat.le_of_ble_eq_true rfl) ?_
    obtain ⟨hn3, hv⟩ := hv
    refine c_X5_fail (h := h) hL eT (nI 3)  hn3 (show At (d + 3) MX5_readTimes 13 [.ref 2] [.int (b2i (r_X5_fail (nI 3) h))] (w_X5_fail (nI 3) h) Q from ?_)
    exact At_retZ iX5_readTimes_13 rfl (b2i_01 _) hv
-- X5_readTurn (by choice)
set_option maxRecDepth 20000 in
theorem b_X5_readTurn {d : Nat} {T : HT} (hL : Lay T) {h : Hp} (eT : h.2.2 = T)   {Q : Option Value → Hp → Prop} (hv : CallZ (d + 2) MX5_readNumber [.ref 2, .int (nI 0), .int (nI 15)] h (fun r4 h4 => h4.2.2 = T ∧ (((r4 = true) → (CallZ (d + 2) MX5_readToken [.ref 2, .int (nI 3)] h4 (fun r19 h19 => h19.2.2 = T ∧ (((r19 = true) → ((p_X5_append (r_X4_packed (nI 2) (gI h4 2 7) (nI 0) (-1)) h19) ∧ (Q (some (.int (b2i true))) (w_X5_append (r_X4_packed (nI 2) (gI h4 2 7) (nI 0) (-1)) h19)))) ∧ (¬ (r19 = true) → (Q (some (.int (b2i false))) h19)))))) ∧ (¬ (r4 = true) → (Q (some (.int (b2i false))) h4))))) : Call (d + 3) MX5_readTurn [.ref 2] h Q := by
  show At (d + 3) MX5_readTurn 0 [.ref 2, un] [] h Q
  refine At_aload_n (pc' := 1) iX5_readTurn_0 rfl rfl ?_
  refine At_iconst (v := nI 0) (pc' := 2) iX5_readTurn_1 rfl (by decide) ?_
  refine At_bipush (v := nI 15) (pc' := 4) iX5_readTurn_2 rfl (by decide) ?_
  refine At_virt (pc' := 7) iX5_readTurn_4 rfl m_5_105 rfl rfl (kdK eT (kd_2 hL)) (Nat.le_of_ble_eq_true rfl) (Nat.le_of_ble_eq_true rfl) ?_
  refine At.mono (show CallZ (d + 2) MX5_readNumber [.ref 2, .int (nI 0), .int (nI 15)] h _ from hv) ?_
  rintro _ h4 ⟨r4, rfl, eT4, hv⟩
  show At (d + 3) MX5_readTurn 7 [.ref 2, un] [.int (b2i r4)] h4 Q
  refine At_zne (t := 12) (pc' := 10) iX5_readTurn_7 (by decide) rfl (fun c7 => ?_) (fun c7 => ?_)
  · have hv := hv.1 c7
    refine At_aload_n (pc' := 13) iX5_readTurn_12 rfl rfl ?_
    refine At_getI (pc' := 16) iX5_readTurn_13 rfl f_5_41 (kdK eT4 (kd_2 hL)) (by decide) ?_
    refine At_istore_n (L' := [.ref 2, .int (gI h4 2 7)]) (pc' := 17) iX5_readTurn_16 rfl (Nat.le_of_ble_eq_true rfl) rfl ?_
    refine At_aload_n (pc' := 18) iX5_readTurn_17 rfl rfl ?_
    refine At_iconst (v := nI 3) (pc' := 19) iX5_readTurn_18 rfl (by decide) ?_
    refine At_virt (pc' := 22) iX5_readTurn_19 rfl m_5_102 rfl rfl (kdK eT4 (kd_2 hL)) (Nat.le_of_ble_eq_true rfl) (Nat.le_of_ble_eq_true rfl) ?_
    refine At.mono (show CallZ (d + 2) MX5_readToken [.ref 2, .int (nI 3)] h4 _ from hv) ?_
    rintro _ h19 ⟨r19, rfl, eT19, hv⟩
    show At (d + 3) MX5_readTurn 22 [.ref 2, .int (gI h4 2 7)] [.int (b2i r19)] h19 Q
    refine At_zne (t := 27) (pc' := 25) iX5_readTurn_22 (by decide) rfl (fun c22 => ?_) (fun c22 => ?_)
    · have hv := hv.1 c22
      refine At_aload_n (pc' := 28) iX5_readTurn_27 rfl rfl ?_
      refine At_iconst (v := nI 2) (pc' := 29) iX5_readTurn_28 rfl (by decide) ?_
      refine At_iload_n (pc' := 30) iX5_readTurn_29 rfl rfl ?_
      refine At_iconst (v := nI 0) (pc' := 31) iX5_readTurn_30 rfl (by decide) ?_
      refine At_iconst (v := (-1)) (pc' := 32) iX5_readTurn_31 rfl (by decide) ?_
      refine At_stat (pc' := 35) iX5_readTurn_32 rfl m_5_115 rfl rfl (Nat.le_of_ble_eq_true rfl) (Nat.le_of_ble_eq_true rfl) (Nat.le_of_ble_eq_true rfl) ?_
      refine c_X4_packed (h := h19) (nI 2) (gI h4 2 7) (nI 0) (-1)   (show At (d + 3) MX5_readTurn 35 [.ref 2, .int (gI h4 2 7)] [.int (r_X4_packed (nI 2) (gI h4 2 7) (nI 0) (-1)), .ref 2] h19 Q from ?_)
      refine At_virt (pc' := 38) iX5_readTurn_35 rfl m_5_119 rfl rfl (kdK eT19 (kd_2 hL)) (Nat.le_of_ble_eq_true rfl) (Nat.le_of_ble_eq_true rfl) ?_
      obtain ⟨hn1, hv⟩ := hv
      refine c_X5_append (h := h19) hL eT19 (r_X4_packed (nI 2) (gI h4 2 7) (nI 0) (-1))  hn1 (show At (d + 3) MX5_readTurn 38 [.ref 2, .int (gI h4 2 7)] [] (w_X5_append (r_X4_packed (nI 2) (gI h4 2 7) (nI 0) (-1)) h19) Q from ?_)
      refine At_iconst (v := nI 1) (pc' := 39) iX5_readTurn_38 rfl (by decide) ?_
      exact At_retT iX5_readTurn_39 rfl hv
    · have hv := hv.2 c22
      refine At_iconst (v := nI 0) (pc' := 26) iX5_readTurn_25 rfl (by decide) ?_
      exact At_retF iX5_readTurn_26 rfl hv
  · have hv := hv.2 c7
    refine At_iconst (v := nI 0) (pc' := 11) iX5_readTurn_10 rfl (by decide) ?_
    exact At_retF iX5_readTurn_11 rfl hv
-- X7_mirroredFrom (loop)
def L_X7_mirroredFrom_6 (d : Nat) (a : Nat) (x3 : Int64) (x5 : Int32) (x6 : Int64) (x8 : Int32) (h : Hp) (Q : Option Value → Hp → Prop) : Prop := ∀ v1 v2 : Value, At (d + 3) MX7_mirroredFrom 6 [.ref a, v1, v2, .long x3, un, .int x5, .long x6, un, .int x8] [] h Q
set_option maxRecDepth 20000 in
theorem b_X7_mirroredFrom {d : Nat} {T : HT} (hL : Lay T) {h : Hp} (eT : h.2.2 = T) (a : Nat) (x1 : Int64) (x3 : Int64) (x5 : Int32) (hA : IsX7 T a) {Q : Option Value → Hp → Prop} (hv : L_X7_mirroredFrom_6 d a x3 x5 x1 (nI 0) h Q) : Call (d + 3) MX7_mirroredFrom [.ref a, .long x1, .long x3, .int x5] h Q := by
  show At (d + 3) MX7_mirroredFrom 0 [.ref a, .long x1, un, .long x3, un, .int x5, un, un, un] [] h Q
  refine At_lload_n (pc' := 1) iX7_mirroredFrom_0 rfl rfl ?_
  refine At_lstore (L' := [.ref a, .long x1, un, .long x3, un, .int x5, .long x1, un, un]) (pc' := 3) iX7_mirroredFrom_1 rfl (Nat.le_of_ble_eq_true rfl) rfl ?_
  refine At_iconst (v := nI 0) (pc' := 4) iX7_mirroredFrom_3 rfl (by decide) ?_
  refine At_istore (L' := [.ref a, .long x1, un, .long x3, un, .int x5, .long x1, un, .int (nI 0)]) (pc' := 6) iX7_mirroredFrom_4 rfl (Nat.le_of_ble_eq_true rfl) rfl ?_
  exact hv _ _
set_option maxRecDepth 20000 in
theorem b_X7_mirroredFrom_6 {d : Nat} {T : HT} (hL : Lay T) {h : Hp} (eT : h.2.2 = T) (a : Nat) (x3 : Int64) (x5 : Int32) (x6 : Int64) (x8 : Int32) (hA : IsX7 T a) {Q : Option Value → Hp → Prop} (hv : ((x8 < (gI h a 0)) → ((inB x8 200 = true) ∧ ((p_X4_mirrored (gI h (a + 1) x8.toNatClampNeg) x5) ∧ ((p_X4_madeOn x6 (r_X4_mirrored (gI h (a + 1) x8.toNatClampNeg) x5) x3 x5) ∧ (L_X7_mirroredFrom_6 d a x3 x5 (r_X4_madeOn x6 (r_X4_mirrored (gI h (a + 1) x8.toNatClampNeg) x5) x3 x5) (x8 + nI 1) h Q))))) ∧ (¬ (x8 < (gI h a 0)) → (Q (some (.long x6)) h))) : L_X7_mirroredFrom_6 d a x3 x5 x6 x8 h Q := by
  intro v1 v2
  refine At_iload (pc' := 8) iX7_mirroredFrom_6 rfl rfl ?_
  refine At_aload_n (pc' := 9) iX7_mirroredFrom_8 rfl rfl ?_
  refine At_getI (pc' := 12) iX7_mirroredFrom_9 rfl f_7_9 (kdK eT (X7_k0 hA)) (by decide) ?_
  refine At_icmp_ge (t := 43) (pc' := 15) iX7_mirroredFrom_12 (by decide) rfl (fun c12 => ?_) (fun c12 => ?_)
  · have hv := hv.2 c12
    refine At_lload (pc' := 45) iX7_mirroredFrom_43 rfl rfl ?_
    exact At_retJ iX7_mirroredFrom_45 rfl hv
  · have hv := hv.1 c12
    refine At_lload (pc' := 17) iX7_mirroredFrom_15 rfl rfl ?_
    refine At_aload_n (pc' := 18) iX7_mirroredFrom_17 rfl rfl ?_
    refine At_getR (pc' := 21) iX7_mirroredFrom_18 rfl f_7_15 (kdK eT (X7_k0 hA)) (by decide) (rfH eT (X7_r1 hA)) ?_
    refine At_iload (pc' := 23) iX7_mirroredFrom_21 rfl rfl ?_
    obtain ⟨hn1, hv⟩ := hv
    refine At_iald (pc' := 24) iX7_mirroredFrom_23 rfl (kdH eT (X7_k1 hA)) hn1 (show At (d + 3) MX7_mirroredFrom 24 [.ref a, v1, v2, .long x3, un, .int x5, .long x6, un, .int x8] [.int (gI h (a + 1) x8.toNatClampNeg), .long x6] h Q from ?_)
    refine At_iload (pc' := 26) iX7_mirroredFrom_24 rfl rfl ?_
    refine At_stat (pc' := 29) iX7_mirroredFrom_26 rfl m_7_45 rfl rfl (Nat.le_of_ble_eq_true rfl) (Nat.le_of_ble_eq_true rfl) (Nat.le_of_ble_eq_true rfl) ?_
    obtain ⟨hn2, hv⟩ := hv
    refine c_X4_mirrored (h := h) (gI h (a + 1) x8.toNatClampNeg) x5  hn2 (show At (d + 3) MX7_mirroredFrom 29 [.ref a, v1, v2, .long x3, un, .int x5, .long x6, un, .int x8] [.int (r_X4_mirrored (gI h (a + 1) x8.toNatClampNeg) x5), .long x6] h Q from ?_)
    refine At_lload_n (pc' := 30) iX7_mirroredFrom_29 rfl rfl ?_
    refine At_iload (pc' := 32) iX7_mirroredFrom_30 rfl rfl ?_
    refine At_stat (pc' := 35) iX7_mirroredFrom_32 rfl m_7_41 rfl rfl (Nat.le_of_ble_eq_true rfl) (Nat.le_of_ble_eq_true rfl) (Nat.le_of_ble_eq_true rfl) ?_
    obtain ⟨hn3, hv⟩ := hv
    refine c_X4_madeOn (h := h) x6 (r_X4_mirrored (gI h (a + 1) x8.toNatClampNeg) x5) x3 x5  hn3 (show At (d + 3) MX7_mirroredFrom 35 [.ref a, v1, v2, .long x3, un, .int x5, .long x6, un, .int x8] [.long (r_X4_madeOn x6 (r_X4_mirrored (gI h (a + 1) x8.toNatClampNeg) x5) x3 x5)] h Q from ?_)
    refine At_lstore (L' := [.ref a, v1, v2, .long x3, un, .int x5, .long (r_X4_madeOn x6 (r_X4_mirrored (gI h (a + 1) x8.toNatClampNeg) x5) x3 x5), un, .int x8]) (pc' := 37) iX7_mirroredFrom_35 rfl (Nat.le_of_ble_eq_true rfl) rfl ?_
    refine At_iinc (v := nI 1) (L' := [.ref a, v1, v2, .long x3, un, .int x5, .long (r_X4_madeOn x6 (r_X4_mirrored (gI h (a + 1) x8.toNatClampNeg) x5) x3 x5), un, .int (x8 + nI 1)]) (pc' := 40) iX7_mirroredFrom_37 rfl rfl (Nat.le_of_ble_eq_true rfl) (by decide) rfl ?_
    refine At_goto (t := 6) iX7_mirroredFrom_40 (by decide) ?_
    exact hv _ _
-- X7_sungFrom (loop)
def L_X7_sungFrom_6 (d : Nat) (a : Nat) (x3 : Int64) (x5 : Int32) (x6 : Int32) (x7 : Int64) (x9 : Int32) (h : Hp) (Q : Option Value → Hp → Prop) : Prop := ∀ v1 v2 v10 : Value, At (d + 3) MX7_sungFrom 6 [.ref a, v1, v2, .long x3, un, .int x5, .int x6, .long x7, un, .int x9, v10] [] h Q
set_option maxRecDepth 20000 in
theorem b_X7_sungFrom {d : Nat} {T : HT} (hL : Lay T) {h : Hp} (eT : h.2.2 = T) (a : Nat) (x1 : Int64) (x3 : Int64) (x5 : Int32) (x6 : Int32) (hA : IsX7 T a) {Q : Option Value → Hp → Prop} (hv : L_X7_sungFrom_6 d a x3 x5 x6 x1 (nI 0) h Q) : Call (d + 3) MX7_sungFrom [.ref a, .long x1, .long x3, .int x5, .int x6] h Q := by
  show At (d + 3) MX7_sungFrom 0 [.ref a, .long x1, un, .long x3, un, .int x5, .int x6, un, un, un, un] [] h Q
  refine At_lload_n (pc' := 1) iX7_sungFrom_0 rfl rfl ?_
  refine At_lstore (L' := [.ref a, .long x1, un, .long x3, un, .int x5, .int x6, .long x1, un, un, un]) (pc' := 3) iX7_sungFrom_1 rfl (Nat.le_of_ble_eq_true rfl) rfl ?_
  refine At_iconst (v := nI 0) (pc' := 4) iX7_sungFrom_3 rfl (by decide) ?_
  refine At_istore (L' := [.ref a, .long x1, un, .long x3, un, .int x5, .int x6, .long x1, un, .int (nI 0), un]) (pc' := 6) iX7_sungFrom_4 rfl (Nat.le_of_ble_eq_true rfl) rfl ?_
  exact hv _ _ _
set_option maxRecDepth 20000 in
theorem b_X7_sungFrom_6 {d : Nat} {T : HT} (hL : Lay T) {h : Hp} (eT : h.2.2 = T) (a : Nat) (x3 : Int64) (x5 : Int32) (x6 : Int32) (x7 : Int64) (x9 : Int32) (hA : IsX7 T a) {Q : Option Value → Hp → Prop} (hv : ((x9 < (gI h a 0)) → ((inB x9 200 = true) ∧ ((((r_X4_isTurn (gI h (a + 1) x9.toNatClampNeg)) = true) → ((p_X4_madeOn x7 (gI h (a + 1) x9.toNatClampNeg) x3 x5) ∧ (L_X7_sungFrom_6 d a x3 x5 x6 (r_X4_madeOn x7 (gI h (a + 1) x9.toNatClampNeg) x3 x5) (x9 + nI 1) h Q))) ∧ (¬ ((r_X4_isTurn (gI h (a + 1) x9.toNatClampNeg)) = true) → ((((r_X6_get x7 (r_X4_from (gI h (a + 1) x9.toNatClampNeg))) = x6) → (L_X7_sungFrom_6 d a x3 x5 x6 x7 (x9 + nI 1) h Q)) ∧ (¬ ((r_X6_get x7 (r_X4_from (gI h (a + 1) x9.toNatClampNeg))) = x6) → ((p_X4_madeOn x7 (gI h (a + 1) x9.toNatClampNeg) x3 x5) ∧ (L_X7_sungFrom_6 d a x3 x5 x6 (r_X4_madeOn x7 (gI h (a + 1) x9.toNatClampNeg) x3 x5) (x9 + nI 1) h Q)))))))) ∧ (¬ (x9 < (gI h a 0)) → (Q (some (.long x7)) h))) : L_X7_sungFrom_6 d a x3 x5 x6 x7 x9 h Q := by
  intro v1 v2 v10
  refine At_iload (pc' := 8) iX7_sungFrom_6 rfl rfl ?_
  refine At_aload_n (pc' := 9) iX7_sungFrom_8 rfl rfl ?_
  refine At_getI (pc' := 12) iX7_sungFrom_9 rfl f_7_9 (kdK eT (X7_k0 hA)) (by decide) ?_
  refine At_icmp_ge (t := 65) (pc' := 15) iX7_sungFrom_12 (by decide) rfl (fun c12 => ?_) (fun c12 => ?_)
  · have hv := hv.2 c12
    refine At_lload (pc' := 67) iX7_sungFrom_65 rfl rfl ?_
    exact At_retJ iX7_sungFrom_67 rfl hv
  · have hv := hv.1 c12
    refine At_aload_n (pc' := 16) iX7_sungFrom_15 rfl rfl ?_
    refine At_getR (pc' := 19) iX7_sungFrom_16 rfl f_7_15 (kdK eT (X7_k0 hA)) (by decide) (rfH eT (X7_r1 hA)) ?_
    refine At_iload (pc' := 21) iX7_sungFrom_19 rfl rfl ?_
    obtain ⟨hn1, hv⟩ := hv
    refine At_iald (pc' := 22) iX7_sungFrom_21 rfl (kdH eT (X7_k1 hA)) hn1 (show At (d + 3) MX7_sungFrom 22 [.ref a, v1, v2, .long x3, un, .int x5, .int x6, .long x7, un, .int x9, v10] [.int (gI h (a + 1) x9.toNatClampNeg)] h Q from ?_)
    refine At_istore (L' := [.ref a, v1, v2, .long x3, un, .int x5, .int x6, .long x7, un, .int x9, .int (gI h (a + 1) x9.toNatClampNeg)]) (pc' := 24) iX7_sungFrom_22 rfl (Nat.le_of_ble_eq_true rfl) rfl ?_
    refine At_iload (pc' := 26) iX7_sungFrom_24 rfl rfl ?_
    refine At_stat (pc' := 29) iX7_sungFrom_26 rfl m_7_25 rfl rfl (Nat.le_of_ble_eq_true rfl) (Nat.le_of_ble_eq_true rfl) (Nat.le_of_ble_eq_true rfl) ?_
    refine c_X4_isTurn (h := h) (gI h (a + 1) x9.toNatClampNeg)   (show At (d + 3) MX7_sungFrom 29 [.ref a, v1, v2, .long x3, un, .int x5, .int x6, .long x7, un, .int x9, .int (gI h (a + 1) x9.toNatClampNeg)] [.int (b2i (r_X4_isTurn (gI h (a + 1) x9.toNatClampNeg)))] h Q from ?_)
    refine At_zne (t := 47) (pc' := 32) iX7_sungFrom_29 (by decide) rfl (fun c29 => ?_) (fun c29 => ?_)
    · have hv := hv.1 c29
      refine At_lload (pc' := 49) iX7_sungFrom_47 rfl rfl ?_
      refine At_iload (pc' := 51) iX7_sungFrom_49 rfl rfl ?_
      refine At_lload_n (pc' := 52) iX7_sungFrom_51 rfl rfl ?_
      refine At_iload (pc' := 54) iX7_sungFrom_52 rfl rfl ?_
      refine At_stat (pc' := 57) iX7_sungFrom_54 rfl m_7_41 rfl rfl (Nat.le_of_ble_eq_true rfl) (Nat.le_of_ble_eq_true rfl) (Nat.le_of_ble_eq_true rfl) ?_
      obtain ⟨hn2, hv⟩ := hv
      refine c_X4_madeOn (h := h) x7 (gI h (a + 1) x9.toNatClampNeg) x3 x5  hn2 (show At (d + 3) MX7_sungFrom 57 [.ref a, v1, v2, .long x3, un, .int x5, .int x6, .long x7, un, .int x9, .int (gI h (a + 1) x9.toNatClampNeg)] [.long (r_X4_madeOn x7 (gI h (a + 1) x9.toNatClampNeg) x3 x5)] h Q from ?_)
      refine At_lstore (L' := [.ref a, v1, v2, .long x3, un, .int x5, .int x6, .long (r_X4_madeOn x7 (gI h (a + 1) x9.toNatClampNeg) x3 x5), un, .int x9, .int (gI h (a + 1) x9.toNatClampNeg)]) (pc' := 59) iX7_sungFrom_57 rfl (Nat.le_of_ble_eq_true rfl) rfl ?_
      refine At_iinc (v := nI 1) (L' := [.ref a, v1, v2, .long x3, un, .int x5, .int x6, .long (r_X4_madeOn x7 (gI h (a + 1) x9.toNatClampNeg) x3 x5), un, .int (x9 + nI 1), .int (gI h (a + 1) x9.toNatClampNeg)]) (pc' := 62) iX7_sungFrom_59 rfl rfl (Nat.le_of_ble_eq_true rfl) (by decide) rfl ?_
      refine At_goto (t := 6) iX7_sungFrom_62 (by decide) ?_
      exact hv _ _ _
    · have hv := hv.2 c29
      refine At_lload (pc' := 34) iX7_sungFrom_32 rfl rfl ?_
      refine At_iload (pc' := 36) iX7_sungFrom_34 rfl rfl ?_
      refine At_stat (pc' := 39) iX7_sungFrom_36 rfl m_7_31 rfl rfl (Nat.le_of_ble_eq_true rfl) (Nat.le_of_ble_eq_true rfl) (Nat.le_of_ble_eq_true rfl) ?_
      refine c_X4_from (h := h) (gI h (a + 1) x9.toNatClampNeg)   (show At (d + 3) MX7_sungFrom 39 [.ref a, v1, v2, .long x3, un, .int x5, .int x6, .long x7, un, .int x9, .int (gI h (a + 1) x9.toNatClampNeg)] [.int (r_X4_from (gI h (a + 1) x9.toNatClampNeg)), .long x7] h Q from ?_)
      refine At_stat (pc' := 42) iX7_sungFrom_39 rfl m_7_35 rfl rfl (Nat.le_of_ble_eq_true rfl) (Nat.le_of_ble_eq_true rfl) (Nat.le_of_ble_eq_true rfl) ?_
      refine c_X6_get (h := h) x7 (r_X4_from (gI h (a + 1) x9.toNatClampNeg))   (show At (d + 3) MX7_sungFrom 42 [.ref a, v1, v2, .long x3, un, .int x5, .int x6, .long x7, un, .int x9, .int (gI h (a + 1) x9.toNatClampNeg)] [.int (r_X6_get x7 (r_X4_from (gI h (a + 1) x9.toNatClampNeg)))] h Q from ?_)
      refine At_iload (pc' := 44) iX7_sungFrom_42 rfl rfl ?_
      refine At_icmp_eq (t := 59) (pc' := 47) iX7_sungFrom_44 (by decide) rfl (fun c44 => ?_) (fun c44 => ?_)
      · have hv := hv.1 c44
        refine At_iinc (v := nI 1) (L' := [.ref a, v1, v2, .long x3, un, .int x5, .int x6, .long x7, un, .int (x9 + nI 1), .int (gI h (a + 1) x9.toNatClampNeg)]) (pc' := 62) iX7_sungFrom_59 rfl rfl (Nat.le_of_ble_eq_true rfl) (by decide) rfl ?_
        refine At_goto (t := 6) iX7_sungFrom_62 (by decide) ?_
        exact hv _ _ _
      · have hv := hv.2 c44
        refine At_lload (pc' := 49) iX7_sungFrom_47 rfl rfl ?_
        refine At_iload (pc' := 51) iX7_sungFrom_49 rfl rfl ?_
        refine At_lload_n (pc' := 52) iX7_sungFrom_51 rfl rfl ?_
        refine At_iload (pc' := 54) iX7_sungFrom_52 rfl rfl ?_
        refine At_stat (pc' := 57) iX7_sungFrom_54 rfl m_7_41 rfl rfl (Nat.le_of_ble_eq_true rfl) (Nat.le_of_ble_eq_true rfl) (Nat.le_of_ble_eq_true rfl) ?_
        obtain ⟨hn3, hv⟩ := hv
        refine c_X4_madeOn (h := h) x7 (gI h (a + 1) x9.toNatClampNeg) x3 x5  hn3 (show At (d + 3) MX7_sungFrom 57 [.ref a, v1, v2, .long x3, un, .int x5, .int x6, .long x7, un, .int x9, .int (gI h (a + 1) x9.toNatClampNeg)] [.long (r_X4_madeOn x7 (gI h (a + 1) x9.toNatClampNeg) x3 x5)] h Q from ?_)
        refine At_lstore (L' := [.ref a, v1, v2, .long x3, un, .int x5, .int x6, .long (r_X4_madeOn x7 (gI h (a + 1) x9.toNatClampNeg) x3 x5), un, .int x9, .int (gI h (a + 1) x9.toNatClampNeg)]) (pc' := 59) iX7_sungFrom_57 rfl (Nat.le_of_ble_eq_true rfl) rfl ?_
        refine At_iinc (v := nI 1) (L' := [.ref a, v1, v2, .long x3, un, .int x5, .int x6, .long (r_X4_madeOn x7 (gI h (a + 1) x9.toNatClampNeg) x3 x5), un, .int (x9 + nI 1), .int (gI h (a + 1) x9.toNatClampNeg)]) (pc' := 62) iX7_sungFrom_59 rfl rfl (Nat.le_of_ble_eq_true rfl) (by decide) rfl ?_
        refine At_goto (t := 6) iX7_sungFrom_62 (by decide) ?_
        exact hv _ _ _
-- X8_layRows (loop)
def L_X8_layRows_13 (d : Nat) (a : Nat) (x1 : Nat) (x2 : Int32) (x3 : Int64) (x5 : Int32) (h : Hp) (Q : Option Value → Hp → Prop) : Prop := ∀ v6 v7 : Value, At (d + 3) MX8_layRows 13 [.ref a, .ref x1, .int x2, .long x3, un, .int x5, v6, v7] [] h Q
def L_X8_layRows_29 (d : Nat) (a : Nat) (x1 : Nat) (x2 : Int32) (x3 : Int64) (x5 : Int32) (x6 : Int32) (h : Hp) (Q : Option Value → Hp → Prop) : Prop := ∀ v7 : Value, At (d + 3) MX8_layRows 29 [.ref a, .ref x1, .int x2, .long x3, un, .int x5, .int x6, v7] [] h Q
set_option maxRecDepth 20000 in
theorem b_X8_layRows {d : Nat} {T : HT} (hL : Lay T) {h : Hp} (eT : h.2.2 = T) (a : Nat) (x1 : Nat) (hA : IsX8 T a) (hA1 : IsX7 T x1) {Q : Option Value → Hp → Prop} (hv : L_X8_layRows_13 d a x1 (nI 0) (r_X6_home (gI h a 0)) (nI 0) h Q) : Call (d + 3) MX8_layRows [.ref a, .ref x1] h Q := by
  show At (d + 3) MX8_layRows 0 [.ref a, .ref x1, un, un, un, un, un, un] [] h Q
  refine At_iconst (v := nI 0) (pc' := 1) iX8_layRows_0 rfl (by decide) ?_
  refine At_istore_n (L' := [.ref a, .ref x1, .int (nI 0), un, un, un, un, un]) (pc' := 2) iX8_layRows_1 rfl (Nat.le_of_ble_eq_true rfl) rfl ?_
  refine At_aload_n (pc' := 3) iX8_layRows_2 rfl rfl ?_
  refine At_getI (pc' := 6) iX8_layRows_3 rfl f_8_9 (kdK eT (X8_k0 hA)) (by decide) ?_
  refine At_stat (pc' := 9) iX8_layRows_6 rfl m_8_126 rfl rfl (Nat.le_of_ble_eq_true rfl) (Nat.le_of_ble_eq_true rfl) (Nat.le_of_ble_eq_true rfl) ?_
  refine c_X6_home (h := h) (gI h a 0)   (show At (d + 3) MX8_layRows 9 [.ref a, .ref x1, .int (nI 0), un, un, un, un, un] [.long (r_X6_home (gI h a 0))] h Q from ?_)
  refine At_lstore_n (L' := [.ref a, .ref x1, .int (nI 0), .long (r_X6_home (gI h a 0)), un, un, un, un]) (pc' := 10) iX8_layRows_9 rfl (Nat.le_of_ble_eq_true rfl) rfl ?_
  refine At_iconst (v := nI 0) (pc' := 11) iX8_layRows_10 rfl (by decide) ?_
  refine At_istore (L' := [.ref a, .ref x1, .int (nI 0), .long (r_X6_home (gI h a 0)), un, .int (nI 0), un, un]) (pc' := 13) iX8_layRows_11 rfl (Nat.le_of_ble_eq_true rfl) rfl ?_
  exact hv _ _
set_option maxRecDepth 20000 in
theorem b_X8_layRows_13 {d : Nat} {T : HT} (hL : Lay T) {h : Hp} (eT : h.2.2 = T) (a : Nat) (x1 : Nat) (x2 : Int32) (x3 : Int64) (x5 : Int32) (hA : IsX8 T a) (hA1 : IsX7 T x1) {Q : Option Value → Hp → Prop} (hv : ((x5 < (nI 60)) → (((x2 < (nI 30)) → (L_X8_layRows_29 d a x1 x2 x3 x5 (nI 0) h Q)) ∧ (¬ (x2 < (nI 30)) → (Q (some (.int x2)) h)))) ∧ (¬ (x5 < (nI 60)) → (Q (some (.int x2)) h))) : L_X8_layRows_13 d a x1 x2 x3 x5 h Q := by
  intro v6 v7
  refine At_iload (pc' := 15) iX8_layRows_13 rfl rfl ?_
  refine At_bipush (v := nI 60) (pc' := 17) iX8_layRows_15 rfl (by decide) ?_
  refine At_icmp_ge (t := 109) (pc' := 20) iX8_layRows_17 (by decide) rfl (fun c17 => ?_) (fun c17 => ?_)
  · have hv := hv.2 c17
    refine At_iload_n (pc' := 110) iX8_layRows_109 rfl rfl ?_
    exact At_retI iX8_layRows_110 rfl hv
  · have hv := hv.1 c17
    refine At_iload_n (pc' := 21) iX8_layRows_20 rfl rfl ?_
    refine At_bipush (v := nI 30) (pc' := 23) iX8_layRows_21 rfl (by decide) ?_
    refine At_icmp_ge (t := 109) (pc' := 26) iX8_layRows_23 (by decide) rfl (fun c23 => ?_) (fun c23 => ?_)
    · have hv := hv.2 c23
      refine At_iload_n (pc' := 110) iX8_layRows_109 rfl rfl ?_
      exact At_retI iX8_layRows_110 rfl hv
    · have hv := hv.1 c23
      refine At_iconst (v := nI 0) (pc' := 27) iX8_layRows_26 rfl (by decide) ?_
      refine At_istore (L' := [.ref a, .ref x1, .int x2, .long x3, un, .int x5, .int (nI 0), v7]) (pc' := 29) iX8_layRows_27 rfl (Nat.le_of_ble_eq_true rfl) rfl ?_
      exact hv _
set_option maxRecDepth 20000 in
theorem b_X8_layRows_29 {d : Nat} {T : HT} (hL : Lay T) {h : Hp} (eT : h.2.2 = T) (a : Nat) (x1 : Nat) (x2 : Int32) (x3 : Int64) (x5 : Int32) (x6 : Int32) (hA : IsX8 T a) (hA1 : IsX7 T x1) {Q : Option Value → Hp → Prop} (hv : ((x6 < (gI h x1 0)) → (((x2 < (nI 30)) → ((inB x6 200 = true) ∧ ((((r_X4_isTurn (r_X4_withoutAsking (gI h (x1 + 1) x6.toNatClampNeg))) = true) → ((p_X4_madeOn x3 (r_X4_withoutAsking (gI h (x1 + 1) x6.toNatClampNeg)) (gJ h a 2) (gI h a 0)) ∧ (L_X8_layRows_29 d a x1 x2 (r_X4_madeOn x3 (r_X4_withoutAsking (gI h (x1 + 1) x6.toNatClampNeg)) (gJ h a 2) (gI h a 0)) x5 (x6 + nI 1) h Q))) ∧ (¬ ((r_X4_isTurn (r_X4_withoutAsking (gI h (x1 + 1) x6.toNatClampNeg))) = true) → ((inB x2 30 = true) ∧ ((p_X4_madeOn x3 (r_X4_withoutAsking (gI h (x1 + 1) x6.toNatClampNeg)) (gJ (sI h (a + 7) x2.toNatClampNeg (r_X6_get x3 (r_X4_from (r_X4_withoutAsking (gI h (x1 + 1) x6.toNatClampNeg))))) a 2) (gI (sI h (a + 7) x2.toNatClampNeg (r_X6_get x3 (r_X4_from (r_X4_withoutAsking (gI h (x1 + 1) x6.toNatClampNeg))))) a 0)) ∧ (L_X8_layRows_29 d a x1 (x2 + nI 1) (r_X4_madeOn x3 (r_X4_withoutAsking (gI h (x1 + 1) x6.toNatClampNeg)) (gJ (sI h (a + 7) x2.toNatClampNeg (r_X6_get x3 (r_X4_from (r_X4_withoutAsking (gI h (x1 + 1) x6.toNatClampNeg))))) a 2) (gI (sI h (a + 7) x2.toNatClampNeg (r_X6_get x3 (r_X4_from (r_X4_withoutAsking (gI h (x1 + 1) x6.toNatClampNeg))))) a 0)) x5 (x6 + nI 1) (sI h (a + 7) x2.toNatClampNeg (r_X6_get x3 (r_X4_from (r_X4_withoutAsking (gI h (x1 + 1) x6.toNatClampNeg))))) Q))))))) ∧ (¬ (x2 < (nI 30)) → (L_X8_layRows_13 d a x1 x2 x3 (x5 + nI 1) h Q)))) ∧ (¬ (x6 < (gI h x1 0)) → (L_X8_layRows_13 d a x1 x2 x3 (x5 + nI 1) h Q))) : L_X8_layRows_29 d a x1 x2 x3 x5 x6 h Q := by
  intro v7
  refine At_iload (pc' := 31) iX8_layRows_29 rfl rfl ?_
  refine At_aload_n (pc' := 32) iX8_layRows_31 rfl rfl ?_
  refine At_getI (pc' := 35) iX8_layRows_32 rfl f_8_55 (kdK eT (X7_k0 hA1)) (by decide) ?_
  refine At_icmp_ge (t := 103) (pc' := 38) iX8_layRows_35 (by decide) rfl (fun c35 => ?_) (fun c35 => ?_)
  · have hv := hv.2 c35
    refine At_iinc (v := nI 1) (L' := [.ref a, .ref x1, .int x2, .long x3, un, .int (x5 + nI 1), .int x6, v7]) (pc' := 106) iX8_layRows_103 rfl rfl (Nat.le_of_ble_eq_true rfl) (by decide) rfl ?_
    refine At_goto (t := 13) iX8_layRows_106 (by decide) ?_
    exact hv _ _
  · have hv := hv.1 c35
    refine At_iload_n (pc' := 39) iX8_layRows_38 rfl rfl ?_
    refine At_bipush (v := nI 30) (pc' := 41) iX8_layRows_39 rfl (by decide) ?_
    refine At_icmp_ge (t := 103) (pc' := 44) iX8_layRows_41 (by decide) rfl (fun c41 => ?_) (fun c41 => ?_)
    · have hv := hv.2 c41
      refine At_iinc (v := nI 1) (L' := [.ref a, .ref x1, .int x2, .long x3, un, .int (x5 + nI 1), .int x6, v7]) (pc' := 106) iX8_layRows_103 rfl rfl (Nat.le_of_ble_eq_true rfl) (by decide) rfl ?_
      refine At_goto (t := 13) iX8_layRows_106 (by decide) ?_
      exact hv _ _
    · have hv := hv.1 c41
      refine At_aload_n (pc' := 45) iX8_layRows_44 rfl rfl ?_
      refine At_getR (pc' := 48) iX8_layRows_45 rfl f_8_85 (kdK eT (X7_k0 hA1)) (by decide) (rfH eT (X7_r1 hA1)) ?_
      refine At_iload (pc' := 50) iX8_layRows_48 rfl rfl ?_
      obtain ⟨hn1, hv⟩ := hv
      refine At_iald (pc' := 51) iX8_layRows_50 rfl (kdH eT (X7_k1 hA1)) hn1 (show At (d + 3) MX8_layRows 51 [.ref a, .ref x1, .int x2, .long x3, un, .int x5, .int x6, v7] [.int (gI h (x1 + 1) x6.toNatClampNeg)] h Q from ?_)
      refine At_stat (pc' := 54) iX8_layRows_51 rfl m_8_130 rfl rfl (Nat.le_of_ble_eq_true rfl) (Nat.le_of_ble_eq_true rfl) (Nat.le_of_ble_eq_true rfl) ?_
      refine c_X4_withoutAsking (h := h) (gI h (x1 + 1) x6.toNatClampNeg)   (show At (d + 3) MX8_layRows 54 [.ref a, .ref x1, .int x2, .long x3, un, .int x5, .int x6, v7] [.int (r_X4_withoutAsking (gI h (x1 + 1) x6.toNatClampNeg))] h Q from ?_)
      refine At_istore (L' := [.ref a, .ref x1, .int x2, .long x3, un, .int x5, .int x6, .int (r_X4_withoutAsking (gI h (x1 + 1) x6.toNatClampNeg))]) (pc' := 56) iX8_layRows_54 rfl (Nat.le_of_ble_eq_true rfl) rfl ?_
      refine At_iload (pc' := 58) iX8_layRows_56 rfl rfl ?_
      refine At_stat (pc' := 61) iX8_layRows_58 rfl m_8_97 rfl rfl (Nat.le_of_ble_eq_true rfl) (Nat.le_of_ble_eq_true rfl) (Nat.le_of_ble_eq_true rfl) ?_
      refine c_X4_isTurn (h := h) (r_X4_withoutAsking (gI h (x1 + 1) x6.toNatClampNeg))   (show At (d + 3) MX8_layRows 61 [.ref a, .ref x1, .int x2, .long x3, un, .int x5, .int x6, .int (r_X4_withoutAsking (gI h (x1 + 1) x6.toNatClampNeg))] [.int (b2i (r_X4_isTurn (r_X4_withoutAsking (gI h (x1 + 1) x6.toNatClampNeg))))] h Q from ?_)
      refine At_zne (t := 82) (pc' := 64) iX8_layRows_61 (by decide) rfl (fun c61 => ?_) (fun c61 => ?_)
      · have hv := hv.1 c61
        refine At_lload_n (pc' := 83) iX8_layRows_82 rfl rfl ?_
        refine At_iload (pc' := 85) iX8_layRows_83 rfl rfl ?_
        refine At_aload_n (pc' := 86) iX8_layRows_85 rfl rfl ?_
        refine At_getJ (pc' := 89) iX8_layRows_86 rfl f_8_18 (kdK eT (X8_k0 hA)) (by decide) ?_
        refine At_aload_n (pc' := 90) iX8_layRows_89 rfl rfl ?_
        refine At_getI (pc' := 93) iX8_layRows_90 rfl f_8_9 (kdK eT (X8_k0 hA)) (by decide) ?_
        refine At_stat (pc' := 96) iX8_layRows_93 rfl m_8_133 rfl rfl (Nat.le_of_ble_eq_true rfl) (Nat.le_of_ble_eq_true rfl) (Nat.le_of_ble_eq_true rfl) ?_
        obtain ⟨hn2, hv⟩ := hv
        refine c_X4_madeOn (h := h) x3 (r_X4_withoutAsking (gI h (x1 + 1) x6.toNatClampNeg)) (gJ h a 2) (gI h a 0)  hn2 (show At (d + 3) MX8_layRows 96 [.ref a, .ref x1, .int x2, .long x3, un, .int x5, .int x6, .int (r_X4_withoutAsking (gI h (x1 + 1) x6.toNatClampNeg))] [.long (r_X4_madeOn x3 (r_X4_withoutAsking (gI h (x1 + 1) x6.toNatClampNeg)) (gJ h a 2) (gI h a 0))] h Q from ?_)
        refine At_lstore_n (L' := [.ref a, .ref x1, .int x2, .long (r_X4_madeOn x3 (r_X4_withoutAsking (gI h (x1 + 1) x6.toNatClampNeg)) (gJ h a 2) (gI h a 0)), un, .int x5, .int x6, .int (r_X4_withoutAsking (gI h (x1 + 1) x6.toNatClampNeg))]) (pc' := 97) iX8_layRows_96 rfl (Nat.le_of_ble_eq_true rfl) rfl ?_
        refine At_iinc (v := nI 1) (L' := [.ref a, .ref x1, .int x2, .long (r_X4_madeOn x3 (r_X4_withoutAsking (gI h (x1 + 1) x6.toNatClampNeg)) (gJ h a 2) (gI h a 0)), un, .int x5, .int (x6 + nI 1), .int (r_X4_withoutAsking (gI h (x1 + 1) x6.toNatClampNeg))]) (pc' := 100) iX8_layRows_97 rfl rfl (Nat.le_of_ble_eq_true rfl) (by decide) rfl ?_
        refine At_goto (t := 29) iX8_layRows_100 (by decide) ?_
        exact hv _
      · have hv := hv.2 c61
        refine At_aload_n (pc' := 65) iX8_layRows_64 rfl rfl ?_
        refine At_getR (pc' := 68) iX8_layRows_65 rfl f_8_45 (kdK eT (X8_k0 hA)) (by decide) (rfH eT (X8_r8 hA)) ?_
        refine At_iload_n (pc' := 69) iX8_layRows_68 rfl rfl ?_
        refine At_lload_n (pc' := 70) iX8_layRows_69 rfl rfl ?_
        refine At_iload (pc' := 72) iX8_layRows_70 rfl rfl ?_
        refine At_stat (pc' := 75) iX8_layRows_72 rfl m_8_91 rfl rfl (Nat.le_of_ble_eq_true rfl) (Nat.le_of_ble_eq_true rfl) (Nat.le_of_ble_eq_true rfl) ?_
        refine c_X4_from (h := h) (r_X4_withoutAsking (gI h (x1 + 1) x6.toNatClampNeg))   (show At (d + 3) MX8_layRows 75 [.ref a, .ref x1, .int x2, .long x3, un, .int x5, .int x6, .int (r_X4_withoutAsking (gI h (x1 + 1) x6.toNatClampNeg))] [.int (r_X4_from (r_X4_withoutAsking (gI h (x1 + 1) x6.toNatClampNeg))), .long x3, .int x2, .ref (a + 7)] h Q from ?_)
        refine At_stat (pc' := 78) iX8_layRows_75 rfl m_8_75 rfl rfl (Nat.le_of_ble_eq_true rfl) (Nat.le_of_ble_eq_true rfl) (Nat.le_of_ble_eq_true rfl) ?_
        refine c_X6_get (h := h) x3 (r_X4_from (r_X4_withoutAsking (gI h (x1 + 1) x6.toNatClampNeg)))   (show At (d + 3) MX8_layRows 78 [.ref a, .ref x1, .int x2, .long x3, un, .int x5, .int x6, .int (r_X4_withoutAsking (gI h (x1 + 1) x6.toNatClampNeg))] [.int (r_X6_get x3 (r_X4_from (r_X4_withoutAsking (gI h (x1 + 1) x6.toNatClampNeg)))), .int x2, .ref (a + 7)] h Q from ?_)
        obtain ⟨hn3, hv⟩ := hv
        refine At_iast (pc' := 79) iX8_layRows_78 rfl (kdH eT (X8_k7 hA)) hn3 (show At (d + 3) MX8_layRows 79 [.ref a, .ref x1, .int x2, .long x3, un, .int x5, .int x6, .int (r_X4_withoutAsking (gI h (x1 + 1) x6.toNatClampNeg))] [] (sI h (a + 7) x2.toNatClampNeg (r_X6_get x3 (r_X4_from (r_X4_withoutAsking (gI h (x1 + 1) x6.toNatClampNeg))))) Q from ?_)
        refine At_iinc (v := nI 1) (L' := [.ref a, .ref x1, .int (x2 + nI 1), .long x3, un, .int x5, .int x6, .int (r_X4_withoutAsking (gI h (x1 + 1) x6.toNatClampNeg))]) (pc' := 82) iX8_layRows_79 rfl rfl (Nat.le_of_ble_eq_true rfl) (by decide) rfl ?_
        refine At_lload_n (pc' := 83) iX8_layRows_82 rfl rfl ?_
        refine At_iload (pc' := 85) iX8_layRows_83 rfl rfl ?_
        refine At_aload_n (pc' := 86) iX8_layRows_85 rfl rfl ?_
        refine At_getJ (pc' := 89) iX8_layRows_86 rfl f_8_18 (kdK eT (X8_k0 hA)) (by decide) ?_
        refine At_aload_n (pc' := 90) iX8_layRows_89 rfl rfl ?_
        refine At_getI (pc' := 93) iX8_layRows_90 rfl f_8_9 (kdK eT (X8_k0 hA)) (by decide) ?_
        refine At_stat (pc' := 96) iX8_layRows_93 rfl m_8_133 rfl rfl (Nat.le_of_ble_eq_true rfl) (Nat.le_of_ble_eq_true rfl) (Nat.le_of_ble_eq_true rfl) ?_
        obtain ⟨hn4, hv⟩ := hv
        refine c_X4_madeOn (h := sI h (a + 7) x2.toNatClampNeg (r_X6_get x3 (r_X4_from (r_X4_withoutAsking (gI h (x1 + 1) x6.toNatClampNeg))))) x3 (r_X4_withoutAsking (gI h (x1 + 1) x6.toNatClampNeg)) (gJ (sI h (a + 7) x2.toNatClampNeg (r_X6_get x3 (r_X4_from (r_X4_withoutAsking (gI h (x1 + 1) x6.toNatClampNeg))))) a 2) (gI (sI h (a + 7) x2.toNatClampNeg (r_X6_get x3 (r_X4_from (r_X4_withoutAsking (gI h (x1 + 1) x6.toNatClampNeg))))) a 0)  hn4 (show At (d + 3) MX8_layRows 96 [.ref a, .ref x1, .int (x2 + nI 1), .long x3, un, .int x5, .int x6, .int (r_X4_withoutAsking (gI h (x1 + 1) x6.toNatClampNeg))] [.long (r_X4_madeOn x3 (r_X4_withoutAsking (gI h (x1 + 1) x6.toNatClampNeg)) (gJ (sI h (a + 7) x2.toNatClampNeg (r_X6_get x3 (r_X4_from (r_X4_withoutAsking (gI h (x1 + 1) x6.toNatClampNeg))))) a 2) (gI (sI h (a + 7) x2.toNatClampNeg (r_X6_get x3 (r_X4_from (r_X4_withoutAsking (gI h (x1 + 1) x6.toNatClampNeg))))) a 0))] (sI h (a + 7) x2.toNatClampNeg (r_X6_get x3 (r_X4_from (r_X4_withoutAsking (gI h (x1 + 1) x6.toNatClampNeg))))) Q from ?_)
        refine At_lstore_n (L' := [.ref a, .ref x1, .int (x2 + nI 1), .long (r_X4_madeOn x3 (r_X4_withoutAsking (gI h (x1 + 1) x6.toNatClampNeg)) (gJ (sI h (a + 7) x2.toNatClampNeg (r_X6_get x3 (r_X4_from (r_X4_withoutAsking (gI h (x1 + 1) x6.toNatClampNeg))))) a 2) (gI (sI h (a + 7) x2.toNatClampNeg (r_X6_get x3 (r_X4_from (r_X4_withoutAsking (gI h (x1 + 1) x6.toNatClampNeg))))) a 0)), un, .int x5, .int x6, .int (r_X4_withoutAsking (gI h (x1 + 1) x6.toNatClampNeg))]) (pc' := 97) iX8_layRows_96 rfl (Nat.le_of_ble_eq_true rfl) rfl ?_
        refine At_iinc (v := nI 1) (L' := [.ref a, .ref x1, .int (x2 + nI 1), .long (r_X4_madeOn x3 (r_X4_withoutAsking (gI h (x1 + 1) x6.toNatClampNeg)) (gJ (sI h (a + 7) x2.toNatClampNeg (r_X6_get x3 (r_X4_from (r_X4_withoutAsking (gI h (x1 + 1) x6.toNatClampNeg))))) a 2) (gI (sI h (a + 7) x2.toNatClampNeg (r_X6_get x3 (r_X4_from (r_X4_withoutAsking (gI h (x1 + 1) x6.toNatClampNeg))))) a 0)), un, .int x5, .int (x6 + nI 1), .int (r_X4_withoutAsking (gI h (x1 + 1) x6.toNatClampNeg))]) (pc' := 100) iX8_layRows_97 rfl rfl (Nat.le_of_ble_eq_true rfl) (by decide) rfl ?_
        refine At_goto (t := 29) iX8_layRows_100 (by decide) ?_
        exact hv _
-- X8_startAnew (calls J7_fill_53178)
def L_X8_startAnew_30 (d : Nat) (a : Nat) (x1 : Int32) (x2 : Int32) (h : Hp) (Q : Option Value → Hp → Prop) : Prop := At (d + 3) MX8_startAnew 30 [.ref a, .int x1, .int x2] [] h Q
set_option maxRecDepth 20000 in
theorem b_X8_startAnew {d : Nat} {T : HT} (hL : Lay T) {h : Hp} (eT : h.2.2 = T) (a : Nat) (x1 : Int32) (hA : IsX8 T a) {Q : Option Value → Hp → Prop} (hv : CallV (d + 2) MJ7_fill_53178 [.ref (a + 1), .int (-1)] (sJ (sJ (sI (sI h a 0 x1) a 1 (nI 0)) a 2 (0 : Int64)) a 3 (0 : Int64)) (fun h25 => h25.2.2 = T ∧ (L_X8_startAnew_30 d a x1 (nI 0) h25 Q))) : Call (d + 3) MX8_startAnew [.ref a, .int x1] h Q := by
  show At (d + 3) MX8_startAnew 0 [.ref a, .int x1, un] [] h Q
  refine At_aload_n (pc' := 1) iX8_startAnew_0 rfl rfl ?_
  refine At_iload_n (pc' := 2) iX8_startAnew_1 rfl rfl ?_
  refine At_putI (pc' := 5) iX8_startAnew_2 rfl f_8_9 (kdK eT (X8_k0 hA)) (Or.inl rfl) (by decide) ?_
  refine At_aload_n (pc' := 6) iX8_startAnew_5 rfl rfl ?_
  refine At_iconst (v := nI 0) (pc' := 7) iX8_startAnew_6 rfl (by decide) ?_
  refine At_putI (pc' := 10) iX8_startAnew_7 rfl f_8_15 (kdK eT (X8_k0 hA)) (Or.inl rfl) (by decide) ?_
  refine At_aload_n (pc' := 11) iX8_startAnew_10 rfl rfl ?_
  refine At_lconst (v := 0) (pc' := 12) iX8_startAnew_11 rfl (by decide) ?_
  refine At_putJ (pc' := 15) iX8_startAnew_12 rfl f_8_18 (kdK eT (X8_k0 hA)) (Or.inl rfl) (by decide) ?_
  refine At_aload_n (pc' := 16) iX8_startAnew_15 rfl rfl ?_
  refine At_lconst (v := 0) (pc' := 17) iX8_startAnew_16 rfl (by decide) ?_
  refine At_putJ (pc' := 20) iX8_startAnew_17 rfl f_8_22 (kdK eT (X8_k0 hA)) (Or.inl rfl) (by decide) ?_
  refine At_aload_n (pc' := 21) iX8_startAnew_20 rfl rfl ?_
  refine At_getR (pc' := 24) iX8_startAnew_21 rfl f_8_25 (kdK eT (X8_k0 hA)) (by decide) (rfH eT (X8_r4 hA)) ?_
  refine At_iconst (v := (-1)) (pc' := 25) iX8_startAnew_24 rfl (by decide) ?_
  refine At_stat (pc' := 28) iX8_startAnew_25 rfl m_8_48 rfl rfl (Nat.le_of_ble_eq_true rfl) (Nat.le_of_ble_eq_true rfl) (Nat.le_of_ble_eq_true rfl) ?_
  refine At.mono (show CallV (d + 2) MJ7_fill_53178 [.ref (a + 1), .int (-1)] (sJ (sJ (sI (sI h a 0 x1) a 1 (nI 0)) a 2 (0 : Int64)) a 3 (0 : Int64)) _ from hv) ?_
  rintro _ h25 ⟨rfl, eT25, hv⟩
  show At (d + 3) MX8_startAnew 28 [.ref a, .int x1, un] [] h25 Q
  refine At_iconst (v := nI 0) (pc' := 29) iX8_startAnew_28 rfl (by decide) ?_
  refine At_istore_n (L' := [.ref a, .int x1, .int (nI 0)]) (pc' := 30) iX8_startAnew_29 rfl (Nat.le_of_ble_eq_true rfl) rfl ?_
  exact hv
set_option maxRecDepth 20000 in
theorem b_X8_startAnew_30 {d : Nat} {T : HT} (hL : Lay T) {h : Hp} (eT : h.2.2 = T) (a : Nat) (x1 : Int32) (x2 : Int32) (hA : IsX8 T a) {Q : Option Value → Hp → Prop} (hv : ((x2 < (nI 4)) → (∃ k40 : Nat, x2 = nI k40 ∧ k40 < 4 ∧ (L_X8_startAnew_30 d a x1 (x2 + nI 1) (sI h (a + 8 + 2 * k40) 0 (nI 0)) Q))) ∧ (¬ (x2 < (nI 4)) → (CallV (d + 2) MX1_startAnew [.ref (a + 3), .int x1] h (fun h56 => h56.2.2 = T ∧ (Q none h56))))) : L_X8_startAnew_30 d a x1 x2 h Q := by
  refine At_iload_n (pc' := 31) iX8_startAnew_30 rfl rfl ?_
  refine At_iconst (v := nI 4) (pc' := 32) iX8_startAnew_31 rfl (by decide) ?_
  refine At_icmp_ge (t := 51) (pc' := 35) iX8_startAnew_32 (by decide) rfl (fun c32 => ?_) (fun c32 => ?_)
  · have hv := hv.2 c32
    refine At_aload_n (pc' := 52) iX8_startAnew_51 rfl rfl ?_
    refine At_getR (pc' := 55) iX8_startAnew_52 rfl f_8_38 (kdK eT (X8_k0 hA)) (by decide) (rfH eT (X8_r6 hA)) ?_
    refine At_iload_n (pc' := 56) iX8_startAnew_55 rfl rfl ?_
    refine At_virt (pc' := 59) iX8_startAnew_56 rfl m_8_58 rfl rfl (kdK eT (X1_k0 (X8_cord hA))) (Nat.le_of_ble_eq_true rfl) (Nat.le_of_ble_eq_true rfl) ?_
    refine At.mono (show CallV (d + 2) MX1_startAnew [.ref (a + 3), .int x1] h _ from hv) ?_
    rintro _ h56 ⟨rfl, eT56, hv⟩
    show At (d + 3) MX8_startAnew 59 [.ref a, .int x1, .int x2] [] h56 Q
    exact At_retV iX8_startAnew_59 rfl hv
  · have hv := hv.1 c32
    refine At_aload_n (pc' := 36) iX8_startAnew_35 rfl rfl ?_
    refine At_getR (pc' := 39) iX8_startAnew_36 rfl f_8_31 (kdK eT (X8_k0 hA)) (by decide) (rfH eT (X8_r5 hA)) ?_
    refine At_iload_n (pc' := 40) iX8_startAnew_39 rfl rfl ?_
    obtain ⟨k40, e40, hk40, hv⟩ := hv
    refine At_aald (b := (a + 8 + 2 * k40)) (pc' := 41) iX8_startAnew_40 rfl (kdH eT (X8_k2 hA)) (by decide) (by rw [e40]; exact inB_nI hk40 (by decide)) (by rw [e40, nI_clamp (by omega)]; exact rfH eT (X8_sref hA hk40)) ?_
    refine At_iconst (v := nI 0) (pc' := 42) iX8_startAnew_41 rfl (by decide) ?_
    refine At_putI (pc' := 45) iX8_startAnew_42 rfl f_8_55 (kdK eT (X7_k0 (X8_song hA hk40))) (Or.inl rfl) (by decide) ?_
    refine At_iinc (v := nI 1) (L' := [.ref a, .int x1, .int (x2 + nI 1)]) (pc' := 48) iX8_startAnew_45 rfl rfl (Nat.le_of_ble_eq_true rfl) (by decide) rfl ?_
    refine At_goto (t := 30) iX8_startAnew_48 (by decide) ?_
    exact hv
-- X9_findTokens (loop)
def L_X9_findTokens_9 (d : Nat) (x1 : Int32) (x2 : Int32) (h : Hp) (Q : Option Value → Hp → Prop) : Prop := At (d + 3) MX9_findTokens 9 [.ref 3, .int x1, .int x2] [] h Q
set_option maxRecDepth 20000 in
theorem b_X9_findTokens {d : Nat} {T : HT} (hL : Lay T) {h : Hp} (eT : h.2.2 = T)   {Q : Option Value → Hp → Prop} (hv : L_X9_findTokens_9 d (nI 0) (nI 0) (sI h 3 1 (nI 0)) Q) : Call (d + 3) MX9_findTokens [.ref 3] h Q := by
  show At (d + 3) MX9_findTokens 0 [.ref 3, un, un] [] h Q
  refine At_aload_n (pc' := 1) iX9_findTokens_0 rfl rfl ?_
  refine At_iconst (v := nI 0) (pc' := 2) iX9_findTokens_1 rfl (by decide) ?_
  refine At_putI (pc' := 5) iX9_findTokens_2 rfl f_9_15 (kdK eT (kd_3 hL)) (Or.inl rfl) (by decide) ?_
  refine At_iconst (v := nI 0) (pc' := 6) iX9_findTokens_5 rfl (by decide) ?_
  refine At_istore_n (L' := [.ref 3, .int (nI 0), un]) (pc' := 7) iX9_findTokens_6 rfl (Nat.le_of_ble_eq_true rfl) rfl ?_
  refine At_iconst (v := nI 0) (pc' := 8) iX9_findTokens_7 rfl (by decide) ?_
  refine At_istore_n (L' := [.ref 3, .int (nI 0), .int (nI 0)]) (pc' := 9) iX9_findTokens_8 rfl (Nat.le_of_ble_eq_true rfl) rfl ?_
  exact hv
set_option maxRecDepth 20000 in
theorem b_X9_findTokens_9 {d : Nat} {T : HT} (hL : Lay T) {h : Hp} (eT : h.2.2 = T) (x1 : Int32) (x2 : Int32)  {Q : Option Value → Hp → Prop} (hv : ((x2 < (gI h 3 0)) → (((x2 = x1) → (CallI (d + 2) MX9_endOfRun [.ref 3, .int x2] h (fun r24 h24 => h24.2.2 = T ∧ ((inB x2 400 = true) ∧ ((((r_X9_isBlank (gI h24 7 x2.toNatClampNeg)) = true) → (L_X9_findTokens_9 d r24 (x2 + nI 1) h24 Q)) ∧ (¬ ((r_X9_isBlank (gI h24 7 x2.toNatClampNeg)) = true) → (CallI (d + 2) MX9_kindOfRun [.ref 3, .int x2, .int r24] h24 (fun r44 h44 => h44.2.2 = T ∧ (CallI (d + 2) MX9_numberOfRun [.ref 3, .int x2, .int r24] h44 (fun r51 h51 => h51.2.2 = T ∧ ((p_X9_addToken r44 x2 r51 h51) ∧ (L_X9_findTokens_9 d r24 (x2 + nI 1) (w_X9_addToken r44 x2 r51 h51) Q)))))))))))) ∧ (¬ (x2 = x1) → (L_X9_findTokens_9 d x1 (x2 + nI 1) h Q)))) ∧ (¬ (x2 < (gI h 3 0)) → ((p_X9_addToken (nI 0) (gI h 3 0) (nI 0) h) ∧ (Q none (w_X9_addToken (nI 0) (gI h 3 0) (nI 0) h))))) : L_X9_findTokens_9 d x1 x2 h Q := by
  refine At_iload_n (pc' := 10) iX9_findTokens_9 rfl rfl ?_
  refine At_aload_n (pc' := 11) iX9_findTokens_10 rfl rfl ?_
  refine At_getI (pc' := 14) iX9_findTokens_11 rfl f_9_9 (kdK eT (kd_3 hL)) (by decide) ?_
  refine At_icmp_ge (t := 63) (pc' := 17) iX9_findTokens_14 (by decide) rfl (fun c14 => ?_) (fun c14 => ?_)
  · have hv := hv.2 c14
    refine At_aload_n (pc' := 64) iX9_findTokens_63 rfl rfl ?_
    refine At_iconst (v := nI 0) (pc' := 65) iX9_findTokens_64 rfl (by decide) ?_
    refine At_aload_n (pc' := 66) iX9_findTokens_65 rfl rfl ?_
    refine At_getI (pc' := 69) iX9_findTokens_66 rfl f_9_9 (kdK eT (kd_3 hL)) (by decide) ?_
    refine At_iconst (v := nI 0) (pc' := 70) iX9_findTokens_69 rfl (by decide) ?_
    refine At_virt (pc' := 73) iX9_findTokens_70 rfl m_9_47 rfl rfl (kdK eT (kd_3 hL)) (Nat.le_of_ble_eq_true rfl) (Nat.le_of_ble_eq_true rfl) ?_
    obtain ⟨hn1, hv⟩ := hv
    refine c_X9_addToken (h := h) hL eT (nI 0) (gI h 3 0) (nI 0)  hn1 (show At (d + 3) MX9_findTokens 73 [.ref 3, .int x1, .int x2] [] (w_X9_addToken (nI 0) (gI h 3 0) (nI 0) h) Q from ?_)
    exact At_retV iX9_findTokens_73 rfl hv
  · have hv := hv.1 c14
    refine At_iload_n (pc' := 18) iX9_findTokens_17 rfl rfl ?_
    refine At_iload_n (pc' := 19) iX9_findTokens_18 rfl rfl ?_
    refine At_icmp_ne (t := 57) (pc' := 22) iX9_findTokens_19 (by decide) rfl (fun c19 => ?_) (fun c19 => ?_)
    · have hv := hv.2 c19
      refine At_iinc (v := nI 1) (L' := [.ref 3, .int x1, .int (x2 + nI 1)]) (pc' := 60) iX9_findTokens_57 rfl rfl (Nat.le_of_ble_eq_true rfl) (by decide) rfl ?_
      refine At_goto (t := 9) iX9_findTokens_60 (by decide) ?_
      exact hv
    · have hv := hv.1 c19
      refine At_aload_n (pc' := 23) iX9_findTokens_22 rfl rfl ?_
      refine At_iload_n (pc' := 24) iX9_findTokens_23 rfl rfl ?_
      refine At_virt (pc' := 27) iX9_findTokens_24 rfl m_9_32 rfl rfl (kdK eT (kd_3 hL)) (Nat.le_of_ble_eq_true rfl) (Nat.le_of_ble_eq_true rfl) ?_
      refine At.mono (show CallI (d + 2) MX9_endOfRun [.ref 3, .int x2] h _ from hv) ?_
      rintro _ h24 ⟨r24, rfl, eT24, hv⟩
      show At (d + 3) MX9_findTokens 27 [.ref 3, .int x1, .int x2] [.int r24] h24 Q
      refine At_istore_n (L' := [.ref 3, .int r24, .int x2]) (pc' := 28) iX9_findTokens_27 rfl (Nat.le_of_ble_eq_true rfl) rfl ?_
      refine At_aload_n (pc' := 29) iX9_findTokens_28 rfl rfl ?_
      refine At_getR (pc' := 32) iX9_findTokens_29 rfl f_9_28 (kdK eT24 (kd_3 hL)) (by decide) (rfH eT24 (rf_3_5 hL)) ?_
      refine At_iload_n (pc' := 33) iX9_findTokens_32 rfl rfl ?_
      obtain ⟨hn2, hv⟩ := hv
      refine At_bald (pc' := 34) iX9_findTokens_33 rfl (kdH eT24 (kd_7 hL)) hn2 (show At (d + 3) MX9_findTokens 34 [.ref 3, .int r24, .int x2] [.int (gI h24 7 x2.toNatClampNeg)] h24 Q from ?_)
      refine At_stat (pc' := 37) iX9_findTokens_34 rfl m_9_36 rfl rfl (Nat.le_of_ble_eq_true rfl) (Nat.le_of_ble_eq_true rfl) (Nat.le_of_ble_eq_true rfl) ?_
      refine c_X9_isBlank (h := h24) (gI h24 7 x2.toNatClampNeg)   (show At (d + 3) MX9_findTokens 37 [.ref 3, .int r24, .int x2] [.int (b2i (r_X9_isBlank (gI h24 7 x2.toNatClampNeg)))] h24 Q from ?_)
      refine At_zne (t := 57) (pc' := 40) iX9_findTokens_37 (by decide) rfl (fun c37 => ?_) (fun c37 => ?_)
      · have hv := hv.1 c37
        refine At_iinc (v := nI 1) (L' := [.ref 3, .int r24, .int (x2 + nI 1)]) (pc' := 60) iX9_findTokens_57 rfl rfl (Nat.le_of_ble_eq_true rfl) (by decide) rfl ?_
        refine At_goto (t := 9) iX9_findTokens_60 (by decide) ?_
        exact hv
      · have hv := hv.2 c37
        refine At_aload_n (pc' := 41) iX9_findTokens_40 rfl rfl ?_
        refine At_aload_n (pc' := 42) iX9_findTokens_41 rfl rfl ?_
        refine At_iload_n (pc' := 43) iX9_findTokens_42 rfl rfl ?_
        refine At_iload_n (pc' := 44) iX9_findTokens_43 rfl rfl ?_
        refine At_virt (pc' := 47) iX9_findTokens_44 rfl m_9_40 rfl rfl (kdK eT24 (kd_3 hL)) (Nat.le_of_ble_eq_true rfl) (Nat.le_of_ble_eq_true rfl) ?_
        refine At.mono (show CallI (d + 2) MX9_kindOfRun [.ref 3, .int x2, .int r24] h24 _ from hv) ?_
        rintro _ h44 ⟨r44, rfl, eT44, hv⟩
        show At (d + 3) MX9_findTokens 47 [.ref 3, .int r24, .int x2] [.int r44, .ref 3] h44 Q
        refine At_iload_n (pc' := 48) iX9_findTokens_47 rfl rfl ?_
        refine At_aload_n (pc' := 49) iX9_findTokens_48 rfl rfl ?_
        refine At_iload_n (pc' := 50) iX9_findTokens_49 rfl rfl ?_
        refine At_iload_n (pc' := 51) iX9_findTokens_50 rfl rfl ?_
        refine At_virt (pc' := 54) iX9_findTokens_51 rfl m_9_44 rfl rfl (kdK eT44 (kd_3 hL)) (Nat.le_of_ble_eq_true rfl) (Nat.le_of_ble_eq_true rfl) ?_
        refine At.mono (show CallI (d + 2) MX9_numberOfRun [.ref 3, .int x2, .int r24] h44 _ from hv) ?_
        rintro _ h51 ⟨r51, rfl, eT51, hv⟩
        show At (d + 3) MX9_findTokens 54 [.ref 3, .int r24, .int x2] [.int r51, .int x2, .int r44, .ref 3] h51 Q
        refine At_virt (pc' := 57) iX9_findTokens_54 rfl m_9_47 rfl rfl (kdK eT51 (kd_3 hL)) (Nat.le_of_ble_eq_true rfl) (Nat.le_of_ble_eq_true rfl) ?_
        obtain ⟨hn3, hv⟩ := hv
        refine c_X9_addToken (h := h51) hL eT51 r44 x2 r51  hn3 (show At (d + 3) MX9_findTokens 57 [.ref 3, .int r24, .int x2] [] (w_X9_addToken r44 x2 r51 h51) Q from ?_)
        refine At_iinc (v := nI 1) (L' := [.ref 3, .int r24, .int (x2 + nI 1)]) (pc' := 60) iX9_findTokens_57 rfl rfl (Nat.le_of_ble_eq_true rfl) (by decide) rfl ?_
        refine At_goto (t := 9) iX9_findTokens_60 (by decide) ?_
        exact hv
-- X10_countRings (loop)
def L_X10_countRings_6 (d : Nat) (x1 : Int32) (x2 : Int32) (x3 : Int32) (h : Hp) (Q : Option Value → Hp → Prop) : Prop := At (d + 3) MX10_countRings 6 [.ref 1, .int x1, .int x2, .int x3] [] h Q
set_option maxRecDepth 20000 in
theorem b_X10_countRings {d : Nat} {T : HT} (hL : Lay T) {h : Hp} (eT : h.2.2 = T)   {Q : Option Value → Hp → Prop} (hv : L_X10_countRings_6 d (nI 0) (nI 0) (nI 0) h Q) : Call (d + 3) MX10_countRings [.ref 1] h Q := by
  show At (d + 3) MX10_countRings 0 [.ref 1, un, un, un] [] h Q
  refine At_iconst (v := nI 0) (pc' := 1) iX10_countRings_0 rfl (by decide) ?_
  refine At_istore_n (L' := [.ref 1, .int (nI 0), un, un]) (pc' := 2) iX10_countRings_1 rfl (Nat.le_of_ble_eq_true rfl) rfl ?_
  refine At_iconst (v := nI 0) (pc' := 3) iX10_countRings_2 rfl (by decide) ?_
  refine At_istore_n (L' := [.ref 1, .int (nI 0), .int (nI 0), un]) (pc' := 4) iX10_countRings_3 rfl (Nat.le_of_ble_eq_true rfl) rfl ?_
  refine At_iconst (v := nI 0) (pc' := 5) iX10_countRings_4 rfl (by decide) ?_
  refine At_istore_n (L' := [.ref 1, .int (nI 0), .int (nI 0), .int (nI 0)]) (pc' := 6) iX10_countRings_5 rfl (Nat.le_of_ble_eq_true rfl) rfl ?_
  exact hv
set_option maxRecDepth 20000 in
theorem b_X10_countRings_6 {d : Nat} {T : HT} (hL : Lay T) {h : Hp} (eT : h.2.2 = T) (x1 : Int32) (x2 : Int32) (x3 : Int32)  {Q : Option Value → Hp → Prop} (hv : ((x3 < (gI h 12 0)) → ((((x2 &&& ((nI 1) <<< (x3 &&& 31))) = 0) → (CallI (d + 2) MX10_ringOf [.ref 1, .int x3] h (fun r28 h28 => h28.2.2 = T ∧ (L_X10_countRings_6 d (x1 + nI 1) (x2 ||| r28) (x3 + nI 1) h28 Q)))) ∧ (¬ ((x2 &&& ((nI 1) <<< (x3 &&& 31))) = 0) → (L_X10_countRings_6 d x1 x2 (x3 + nI 1) h Q)))) ∧ (¬ (x3 < (gI h 12 0)) → (Q (some (.int x1)) h))) : L_X10_countRings_6 d x1 x2 x3 h Q := by
  refine At_iload_n (pc' := 7) iX10_countRings_6 rfl rfl ?_
  refine At_aload_n (pc' := 8) iX10_countRings_7 rfl rfl ?_
  refine At_getR (pc' := 11) iX10_countRings_8 rfl f_10_19 (kdK eT (kd_1 hL)) (by decide) (rfH eT (rf_1_1 hL)) ?_
  refine At_getI (pc' := 14) iX10_countRings_11 rfl f_10_109 (kdK eT (kd_12 hL)) (by decide) ?_
  refine At_icmp_ge (t := 42) (pc' := 17) iX10_countRings_14 (by decide) rfl (fun c14 => ?_) (fun c14 => ?_)
  · have hv := hv.2 c14
    refine At_iload_n (pc' := 43) iX10_countRings_42 rfl rfl ?_
    exact At_retI iX10_countRings_43 rfl hv
  · have hv := hv.1 c14
    refine At_iload_n (pc' := 18) iX10_countRings_17 rfl rfl ?_
    refine At_iconst (v := nI 1) (pc' := 19) iX10_countRings_18 rfl (by decide) ?_
    refine At_iload_n (pc' := 20) iX10_countRings_19 rfl rfl ?_
    refine At_ishl (pc' := 21) iX10_countRings_20 rfl ?_
    refine At_iand (pc' := 22) iX10_countRings_21 rfl ?_
    refine At_if_ne (t := 36) (pc' := 25) iX10_countRings_22 (by decide) rfl (fun c22 => ?_) (fun c22 => ?_)
    · have hv := hv.2 c22
      refine At_iinc (v := nI 1) (L' := [.ref 1, .int x1, .int x2, .int (x3 + nI 1)]) (pc' := 39) iX10_countRings_36 rfl rfl (Nat.le_of_ble_eq_true rfl) (by decide) rfl ?_
      refine At_goto (t := 6) iX10_countRings_39 (by decide) ?_
      exact hv
    · have hv := hv.1 c22
      refine At_iload_n (pc' := 26) iX10_countRings_25 rfl rfl ?_
      refine At_aload_n (pc' := 27) iX10_countRings_26 rfl rfl ?_
      refine At_iload_n (pc' := 28) iX10_countRings_27 rfl rfl ?_
      refine At_virt (pc' := 31) iX10_countRings_28 rfl m_10_236 rfl rfl (kdK eT (kd_1 hL)) (Nat.le_of_ble_eq_true rfl) (Nat.le_of_ble_eq_true rfl) ?_
      refine At.mono (show CallI (d + 2) MX10_ringOf [.ref 1, .int x3] h _ from hv) ?_
      rintro _ h28 ⟨r28, rfl, eT28, hv⟩
      show At (d + 3) MX10_countRings 31 [.ref 1, .int x1, .int x2, .int x3] [.int r28, .int x2] h28 Q
      refine At_ior (pc' := 32) iX10_countRings_31 rfl ?_
      refine At_istore_n (L' := [.ref 1, .int x1, .int (x2 ||| r28), .int x3]) (pc' := 33) iX10_countRings_32 rfl (Nat.le_of_ble_eq_true rfl) rfl ?_
      refine At_iinc (v := nI 1) (L' := [.ref 1, .int (x1 + nI 1), .int (x2 ||| r28), .int x3]) (pc' := 36) iX10_countRings_33 rfl rfl (Nat.le_of_ble_eq_true rfl) (by decide) rfl ?_
      refine At_iinc (v := nI 1) (L' := [.ref 1, .int (x1 + nI 1), .int (x2 ||| r28), .int (x3 + nI 1)]) (pc' := 39) iX10_countRings_36 rfl rfl (Nat.le_of_ble_eq_true rfl) (by decide) rfl ?_
      refine At_goto (t := 6) iX10_countRings_39 (by decide) ?_
      exact hv
-- X10_pulled (loop)
def L_X10_pulled_24 (d : Nat) (x1 : Int32) (x2 : Int32) (x3 : Int32) (x4 : Int32) (h : Hp) (Q : Option Value → Hp → Prop) : Prop := ∀ v5 : Value, At (d + 3) MX10_pulled 24 [.ref 1, .int x1, .int x2, .int x3, .int x4, v5] [] h Q
set_option maxRecDepth 20000 in
theorem b_X10_pulled {d : Nat} {T : HT} (hL : Lay T) {h : Hp} (eT : h.2.2 = T) (x1 : Int32)  {Q : Option Value → Hp → Prop} (hv : ((x1 < (-1)) → (Q (some (.int (-1))) h)) ∧ (¬ (x1 < (-1)) → (L_X10_pulled_24 d x1 (((nI 1) <<< ((gI h 12 0) &&& 31)) - (nI 1)) (nI 0) (nI 0) h Q))) : Call (d + 3) MX10_pulled [.ref 1, .int x1] h Q := by
  show At (d + 3) MX10_pulled 0 [.ref 1, .int x1, un, un, un, un] [] h Q
  refine At_iload_n (pc' := 1) iX10_pulled_0 rfl rfl ?_
  refine At_iconst (v := (-1)) (pc' := 2) iX10_pulled_1 rfl (by decide) ?_
  refine At_icmp_ge (t := 7) (pc' := 5) iX10_pulled_2 (by decide) rfl (fun c2 => ?_) (fun c2 => ?_)
  · have hv := hv.2 c2
    refine At_iconst (v := nI 1) (pc' := 8) iX10_pulled_7 rfl (by decide) ?_
    refine At_aload_n (pc' := 9) iX10_pulled_8 rfl rfl ?_
    refine At_getR (pc' := 12) iX10_pulled_9 rfl f_10_19 (kdK eT (kd_1 hL)) (by decide) (rfH eT (rf_1_1 hL)) ?_
    refine At_getI (pc' := 15) iX10_pulled_12 rfl f_10_109 (kdK eT (kd_12 hL)) (by decide) ?_
    refine At_ishl (pc' := 16) iX10_pulled_15 rfl ?_
    refine At_iconst (v := nI 1) (pc' := 17) iX10_pulled_16 rfl (by decide) ?_
    refine At_isub (pc' := 18) iX10_pulled_17 rfl ?_
    refine At_istore_n (L' := [.ref 1, .int x1, .int (((nI 1) <<< ((gI h 12 0) &&& 31)) - (nI 1)), un, un, un]) (pc' := 19) iX10_pulled_18 rfl (Nat.le_of_ble_eq_true rfl) rfl ?_
    refine At_iconst (v := nI 0) (pc' := 20) iX10_pulled_19 rfl (by decide) ?_
    refine At_istore_n (L' := [.ref 1, .int x1, .int (((nI 1) <<< ((gI h 12 0) &&& 31)) - (nI 1)), .int (nI 0), un, un]) (pc' := 21) iX10_pulled_20 rfl (Nat.le_of_ble_eq_true rfl) rfl ?_
    refine At_iconst (v := nI 0) (pc' := 22) iX10_pulled_21 rfl (by decide) ?_
    refine At_istore (L' := [.ref 1, .int x1, .int (((nI 1) <<< ((gI h 12 0) &&& 31)) - (nI 1)), .int (nI 0), .int (nI 0), un]) (pc' := 24) iX10_pulled_22 rfl (Nat.le_of_ble_eq_true rfl) rfl ?_
    exact hv _
  · have hv := hv.1 c2
    refine At_iconst (v := (-1)) (pc' := 6) iX10_pulled_5 rfl (by decide) ?_
    exact At_retI iX10_pulled_6 rfl hv
set_option maxRecDepth 20000 in
theorem b_X10_pulled_24 {d : Nat} {T : HT} (hL : Lay T) {h : Hp} (eT : h.2.2 = T) (x1 : Int32) (x2 : Int32) (x3 : Int32) (x4 : Int32)  {Q : Option Value → Hp → Prop} (hv : ((x4 < (gI h 12 0)) → (CallI (d + 2) MX1_leastFree [.ref 15, .int x2, .int (gI h 12 0)] h (fun r51 h51 => h51.2.2 = T ∧ (((r51 = (-1)) → (((x1 = (-1)) → (Q (some (.int x3)) h51)) ∧ (¬ (x1 = (-1)) → (Q (some (.int (-1))) h51)))) ∧ (¬ (r51 = (-1)) → (((x3 = x1) → (Q (some (.int r51)) h51)) ∧ (¬ (x3 = x1) → (L_X10_pulled_24 d x1 (x2 &&& (((nI 1) <<< (r51 &&& 31)) ^^^ (-1))) (x3 + nI 1) (x4 + nI 1) h51 Q)))))))) ∧ (¬ (x4 < (gI h 12 0)) → (((x1 = (-1)) → (Q (some (.int x3)) h)) ∧ (¬ (x1 = (-1)) → (Q (some (.int (-1))) h))))) : L_X10_pulled_24 d x1 x2 x3 x4 h Q := by
  intro v5
  refine At_iload (pc' := 26) iX10_pulled_24 rfl rfl ?_
  refine At_aload_n (pc' := 27) iX10_pulled_26 rfl rfl ?_
  refine At_getR (pc' := 30) iX10_pulled_27 rfl f_10_19 (kdK eT (kd_1 hL)) (by decide) (rfH eT (rf_1_1 hL)) ?_
  refine At_getI (pc' := 33) iX10_pulled_30 rfl f_10_109 (kdK eT (kd_12 hL)) (by decide) ?_
  refine At_icmp_ge (t := 91) (pc' := 36) iX10_pulled_33 (by decide) rfl (fun c33 => ?_) (fun c33 => ?_)
  · have hv := hv.2 c33
    refine At_iload_n (pc' := 92) iX10_pulled_91 rfl rfl ?_
    refine At_iconst (v := (-1)) (pc' := 93) iX10_pulled_92 rfl (by decide) ?_
    refine At_icmp_ne (t := 100) (pc' := 96) iX10_pulled_93 (by decide) rfl (fun c93 => ?_) (fun c93 => ?_)
    · have hv := hv.2 c93
      refine At_iconst (v := (-1)) (pc' := 101) iX10_pulled_100 rfl (by decide) ?_
      exact At_retI iX10_pulled_101 rfl hv
    · have hv := hv.1 c93
      refine At_iload_n (pc' := 97) iX10_pulled_96 rfl rfl ?_
      refine At_goto (t := 101) iX10_pulled_97 (by decide) ?_
      exact At_retI iX10_pulled_101 rfl hv
  · have hv := hv.1 c33
    refine At_aload_n (pc' := 37) iX10_pulled_36 rfl rfl ?_
    refine At_getR (pc' := 40) iX10_pulled_37 rfl f_10_19 (kdK eT (kd_1 hL)) (by decide) (rfH eT (rf_1_1 hL)) ?_
    refine At_getR (pc' := 43) iX10_pulled_40 rfl f_10_57 (kdK eT (kd_12 hL)) (by decide) (rfH eT (rf_12_6 hL)) ?_
    refine At_iload_n (pc' := 44) iX10_pulled_43 rfl rfl ?_
    refine At_aload_n (pc' := 45) iX10_pulled_44 rfl rfl ?_
    refine At_getR (pc' := 48) iX10_pulled_45 rfl f_10_19 (kdK eT (kd_1 hL)) (by decide) (rfH eT (rf_1_1 hL)) ?_
    refine At_getI (pc' := 51) iX10_pulled_48 rfl f_10_109 (kdK eT (kd_12 hL)) (by decide) ?_
    refine At_virt (pc' := 54) iX10_pulled_51 rfl m_10_229 rfl rfl (kdK eT (kd_15 hL)) (Nat.le_of_ble_eq_true rfl) (Nat.le_of_ble_eq_true rfl) ?_
    refine At.mono (show CallI (d + 2) MX1_leastFree [.ref 15, .int x2, .int (gI h 12 0)] h _ from hv) ?_
    rintro _ h51 ⟨r51, rfl, eT51, hv⟩
    show At (d + 3) MX10_pulled 54 [.ref 1, .int x1, .int x2, .int x3, .int x4, v5] [.int r51] h51 Q
    refine At_istore (L' := [.ref 1, .int x1, .int x2, .int x3, .int x4, .int r51]) (pc' := 56) iX10_pulled_54 rfl (Nat.le_of_ble_eq_true rfl) rfl ?_
    refine At_iload (pc' := 58) iX10_pulled_56 rfl rfl ?_
    refine At_iconst (v := (-1)) (pc' := 59) iX10_pulled_58 rfl (by decide) ?_
    refine At_icmp_ne (t := 65) (pc' := 62) iX10_pulled_59 (by decide) rfl (fun c59 => ?_) (fun c59 => ?_)
    · have hv := hv.2 c59
      refine At_iload_n (pc' := 66) iX10_pulled_65 rfl rfl ?_
      refine At_iload_n (pc' := 67) iX10_pulled_66 rfl rfl ?_
      refine At_icmp_ne (t := 73) (pc' := 70) iX10_pulled_67 (by decide) rfl (fun c67 => ?_) (fun c67 => ?_)
      · have hv := hv.2 c67
        refine At_iload_n (pc' := 74) iX10_pulled_73 rfl rfl ?_
        refine At_iconst (v := nI 1) (pc' := 75) iX10_pulled_74 rfl (by decide) ?_
        refine At_iload (pc' := 77) iX10_pulled_75 rfl rfl ?_
        refine At_ishl (pc' := 78) iX10_pulled_77 rfl ?_
        refine At_iconst (v := (-1)) (pc' := 79) iX10_pulled_78 rfl (by decide) ?_
        refine At_ixor (pc' := 80) iX10_pulled_79 rfl ?_
        refine At_iand (pc' := 81) iX10_pulled_80 rfl ?_
        refine At_istore_n (L' := [.ref 1, .int x1, .int (x2 &&& (((nI 1) <<< (r51 &&& 31)) ^^^ (-1))), .int x3, .int x4, .int r51]) (pc' := 82) iX10_pulled_81 rfl (Nat.le_of_ble_eq_true rfl) rfl ?_
        refine At_iinc (v := nI 1) (L' := [.ref 1, .int x1, .int (x2 &&& (((nI 1) <<< (r51 &&& 31)) ^^^ (-1))), .int (x3 + nI 1), .int x4, .int r51]) (pc' := 85) iX10_pulled_82 rfl rfl (Nat.le_of_ble_eq_true rfl) (by decide) rfl ?_
        refine At_iinc (v := nI 1) (L' := [.ref 1, .int x1, .int (x2 &&& (((nI 1) <<< (r51 &&& 31)) ^^^ (-1))), .int (x3 + nI 1), .int (x4 + nI 1), .int r51]) (pc' := 88) iX10_pulled_85 rfl rfl (Nat.le_of_ble_eq_true rfl) (by decide) rfl ?_
        refine At_goto (t := 24) iX10_pulled_88 (by decide) ?_
        exact hv _
      · have hv := hv.1 c67
        refine At_iload (pc' := 72) iX10_pulled_70 rfl rfl ?_
        exact At_retI iX10_pulled_72 rfl hv
    · have hv := hv.1 c59
      refine At_goto (t := 91) iX10_pulled_62 (by decide) ?_
      refine At_iload_n (pc' := 92) iX10_pulled_91 rfl rfl ?_
      refine At_iconst (v := (-1)) (pc' := 93) iX10_pulled_92 rfl (by decide) ?_
      refine At_icmp_ne (t := 100) (pc' := 96) iX10_pulled_93 (by decide) rfl (fun c93 => ?_) (fun c93 => ?_)
      · have hv := hv.2 c93
        refine At_iconst (v := (-1)) (pc' := 101) iX10_pulled_100 rfl (by decide) ?_
        exact At_retI iX10_pulled_101 rfl hv
      · have hv := hv.1 c93
        refine At_iload_n (pc' := 97) iX10_pulled_96 rfl rfl ?_
        refine At_goto (t := 101) iX10_pulled_97 (by decide) ?_
        exact At_retI iX10_pulled_101 rfl hv
