-- blocks between loop heads; written out by gen20.py
-- X1_isOverLike (loop)
def L_X1_isOverLike_2 (d : Nat) (a : Nat) (x1 : Nat) (x2 : Int32) (h : Hp) (Q : Option Value → Hp → Prop) : Prop := At (d + 0) MX1_isOverLike 2 [.ref a, .ref x1, .int x2] [] h Q
set_option maxRecDepth 20000 in
theorem b_X1_isOverLike {d : Nat} {T : HT} (hL : Lay T) {h : Hp} (eT : h.2.2 = T) (a : Nat) (x1 : Nat) (hA : IsX1 T a) (hA1 : IsX1 T x1) {Q : Option Value → Hp → Prop} (hv : L_X1_isOverLike_2 d a x1 (nI 0) h Q) : Call (d + 0) MX1_isOverLike [.ref a, .ref x1] h Q := by
  show At (d + 0) MX1_isOverLike 0 [.ref a, .ref x1, un] [] h Q
  refine At_iconst (v := nI 0) (pc' := 1) iX1_isOverLike_0 rfl (by decide) ?_
  refine At_istore_n (L' := [.ref a, .ref x1, .int (nI 0)]) (pc' := 2) iX1_isOverLike_1 rfl (Nat.le_of_ble_eq_true rfl) rfl ?_
  exact hv
set_option maxRecDepth 20000 in
theorem b_X1_isOverLike_2 {d : Nat} {T : HT} (hL : Lay T) {h : Hp} (eT : h.2.2 = T) (a : Nat) (x1 : Nat) (x2 : Int32) (hA : IsX1 T a) (hA1 : IsX1 T x1) {Q : Option Value → Hp → Prop} (hv : ((x2 < (nI 256)) → ((inB x2 256 = true) ∧ ((inB x2 256 = true) ∧ ((((gI h (a + 2) x2.toNatClampNeg) = (gI h (x1 + 2) x2.toNatClampNeg)) → (L_X1_isOverLike_2 d a x1 (x2 + nI 1) h Q)) ∧ (¬ ((gI h (a + 2) x2.toNatClampNeg) = (gI h (x1 + 2) x2.toNatClampNeg)) → (Q (some (.int (b2i false))) h)))))) ∧ (¬ (x2 < (nI 256)) → (Q (some (.int (b2i true))) h))) : L_X1_isOverLike_2 d a x1 x2 h Q := by
  refine At_iload_n (pc' := 3) iX1_isOverLike_2 rfl rfl ?_
  refine At_sipush (v := nI 256) (pc' := 6) iX1_isOverLike_3 rfl (by decide) ?_
  refine At_icmp_ge (t := 32) (pc' := 9) iX1_isOverLike_6 (by decide) rfl (fun c6 => ?_) (fun c6 => ?_)
  · have hv := hv.2 c6
    refine At_iconst (v := nI 1) (pc' := 33) iX1_isOverLike_32 rfl (by decide) ?_
    exact At_retT iX1_isOverLike_33 rfl hv
  · have hv := hv.1 c6
    refine At_aload_n (pc' := 10) iX1_isOverLike_9 rfl rfl ?_
    refine At_getR (pc' := 13) iX1_isOverLike_10 rfl f_1_35 (kdK eT (X1_k0 hA)) (by decide) (rfH eT (X1_r5 hA)) ?_
    refine At_iload_n (pc' := 14) iX1_isOverLike_13 rfl rfl ?_
    obtain ⟨hn1, hv⟩ := hv
    refine At_iald (pc' := 15) iX1_isOverLike_14 rfl (kdH eT (X1_k2 hA)) hn1 (show At (d + 0) MX1_isOverLike 15 [.ref a, .ref x1, .int x2] [.int (gI h (a + 2) x2.toNatClampNeg)] h Q from ?_)
    refine At_aload_n (pc' := 16) iX1_isOverLike_15 rfl rfl ?_
    refine At_getR (pc' := 19) iX1_isOverLike_16 rfl f_1_35 (kdK eT (X1_k0 hA1)) (by decide) (rfH eT (X1_r5 hA1)) ?_
    refine At_iload_n (pc' := 20) iX1_isOverLike_19 rfl rfl ?_
    obtain ⟨hn2, hv⟩ := hv
    refine At_iald (pc' := 21) iX1_isOverLike_20 rfl (kdH eT (X1_k2 hA1)) hn2 (show At (d + 0) MX1_isOverLike 21 [.ref a, .ref x1, .int x2] [.int (gI h (x1 + 2) x2.toNatClampNeg), .int (gI h (a + 2) x2.toNatClampNeg)] h Q from ?_)
    refine At_icmp_eq (t := 26) (pc' := 24) iX1_isOverLike_21 (by decide) rfl (fun c21 => ?_) (fun c21 => ?_)
    · have hv := hv.1 c21
      refine At_iinc (v := nI 1) (L' := [.ref a, .ref x1, .int (x2 + nI 1)]) (pc' := 29) iX1_isOverLike_26 rfl rfl (Nat.le_of_ble_eq_true rfl) (by decide) rfl ?_
      refine At_goto (t := 2) iX1_isOverLike_29 (by decide) ?_
      exact hv
    · have hv := hv.2 c21
      refine At_iconst (v := nI 0) (pc' := 25) iX1_isOverLike_24 rfl (by decide) ?_
      exact At_retF iX1_isOverLike_25 rfl hv
-- X9_add (loop)
def L_X9_add_3 (d : Nat) (x1 : Int32) (x2 : Int32) (h : Hp) (Q : Option Value → Hp → Prop) : Prop := At (d + 0) MX9_add 3 [.ref 3, .int x1, .int x2] [] h Q
set_option maxRecDepth 20000 in
theorem b_X9_add {d : Nat} {T : HT} (hL : Lay T) {h : Hp} (eT : h.2.2 = T) (x1 : Int32)  {Q : Option Value → Hp → Prop} (hv : L_X9_add_3 d x1 (nI 24) h Q) : Call (d + 0) MX9_add [.ref 3, .int x1] h Q := by
  show At (d + 0) MX9_add 0 [.ref 3, .int x1, un] [] h Q
  refine At_bipush (v := nI 24) (pc' := 2) iX9_add_0 rfl (by decide) ?_
  refine At_istore_n (L' := [.ref 3, .int x1, .int (nI 24)]) (pc' := 3) iX9_add_2 rfl (Nat.le_of_ble_eq_true rfl) rfl ?_
  exact hv
set_option maxRecDepth 20000 in
theorem b_X9_add_3 {d : Nat} {T : HT} (hL : Lay T) {h : Hp} (eT : h.2.2 = T) (x1 : Int32) (x2 : Int32)  {Q : Option Value → Hp → Prop} (hv : ((x2 < 0) → (Q none h)) ∧ (¬ (x2 < 0) → ((((gI h 3 0) < (nI 400)) → ((inB (gI h 3 0) 400 = true) ∧ (L_X9_add_3 d x1 (x2 + (-8)) (sI (sI h 7 ((gI h 3 0).toNatClampNeg) (vp_nar .byte ((ushr x1 x2).toInt8.toInt32))) 3 0 ((gI (sI h 7 ((gI h 3 0).toNatClampNeg) (vp_nar .byte ((ushr x1 x2).toInt8.toInt32))) 3 0) + (nI 1))) Q))) ∧ (¬ ((gI h 3 0) < (nI 400)) → (Q none h))))) : L_X9_add_3 d x1 x2 h Q := by
  refine At_iload_n (pc' := 4) iX9_add_3 rfl rfl ?_
  refine At_if_lt (t := 46) (pc' := 7) iX9_add_4 (by decide) rfl (fun c4 => ?_) (fun c4 => ?_)
  · have hv := hv.1 c4
    exact At_retV iX9_add_46 rfl hv
  · have hv := hv.2 c4
    refine At_aload_n (pc' := 8) iX9_add_7 rfl rfl ?_
    refine At_getI (pc' := 11) iX9_add_8 rfl f_9_9 (kdK eT (kd_3 hL)) (by decide) ?_
    refine At_sipush (v := nI 400) (pc' := 14) iX9_add_11 rfl (by decide) ?_
    refine At_icmp_ge (t := 46) (pc' := 17) iX9_add_14 (by decide) rfl (fun c14 => ?_) (fun c14 => ?_)
    · have hv := hv.2 c14
      exact At_retV iX9_add_46 rfl hv
    · have hv := hv.1 c14
      refine At_aload_n (pc' := 18) iX9_add_17 rfl rfl ?_
      refine At_getR (pc' := 21) iX9_add_18 rfl f_9_28 (kdK eT (kd_3 hL)) (by decide) (rfH eT (rf_3_5 hL)) ?_
      refine At_aload_n (pc' := 22) iX9_add_21 rfl rfl ?_
      refine At_getI (pc' := 25) iX9_add_22 rfl f_9_9 (kdK eT (kd_3 hL)) (by decide) ?_
      refine At_iload_n (pc' := 26) iX9_add_25 rfl rfl ?_
      refine At_iload_n (pc' := 27) iX9_add_26 rfl rfl ?_
      refine At_iushr (pc' := 28) iX9_add_27 rfl ?_
      refine At_i2b (pc' := 29) iX9_add_28 rfl ?_
      obtain ⟨hn1, hv⟩ := hv
      refine At_bast (pc' := 30) iX9_add_29 rfl (kdH eT (kd_7 hL)) hn1 (show At (d + 0) MX9_add 30 [.ref 3, .int x1, .int x2] [] (sI h 7 ((gI h 3 0).toNatClampNeg) (vp_nar .byte ((ushr x1 x2).toInt8.toInt32))) Q from ?_)
      refine At_aload_n (pc' := 31) iX9_add_30 rfl rfl ?_
      refine At_dup (pc' := 32) iX9_add_31 rfl rfl ?_
      refine At_getI (pc' := 35) iX9_add_32 rfl f_9_9 (kdK eT (kd_3 hL)) (by decide) ?_
      refine At_iconst (v := nI 1) (pc' := 36) iX9_add_35 rfl (by decide) ?_
      refine At_iadd (pc' := 37) iX9_add_36 rfl ?_
      refine At_putI (pc' := 40) iX9_add_37 rfl f_9_9 (kdK eT (kd_3 hL)) (Or.inl rfl) (by decide) ?_
      refine At_iinc (v := (-8)) (L' := [.ref 3, .int x1, .int (x2 + (-8))]) (pc' := 43) iX9_add_40 rfl rfl (Nat.le_of_ble_eq_true rfl) (by decide) rfl ?_
      refine At_goto (t := 3) iX9_add_43 (by decide) ?_
      exact hv
-- X9_isWord (loop)
def L_X9_isWord_15 (d : Nat) (x1 : Nat) (x2 : Int32) (x4 : Int32) (h : Hp) (Q : Option Value → Hp → Prop) : Prop := ∀ v3 : Value, At (d + 0) MX9_isWord 15 [.ref 3, .ref (1000000 + x1), .int x2, v3, .int x4] [] h Q
set_option maxRecDepth 20000 in
theorem b_X9_isWord {d : Nat} {T : HT} (hL : Lay T) {h : Hp} (eT : h.2.2 = T) (x1 : Nat) (x2 : Int32) (x3 : Int32) (hq1 : x1 < 6) {Q : Option Value → Hp → Prop} (hv : (((x3 - x2) = (nI (strT.getD x1 []).length)) → (L_X9_isWord_15 d x1 x2 (nI 0) h Q)) ∧ (¬ ((x3 - x2) = (nI (strT.getD x1 []).length)) → (Q (some (.int (b2i false))) h))) : Call (d + 0) MX9_isWord [.ref 3, .ref (1000000 + x1), .int x2, .int x3] h Q := by
  show At (d + 0) MX9_isWord 0 [.ref 3, .ref (1000000 + x1), .int x2, .int x3, un] [] h Q
  refine At_iload_n (pc' := 1) iX9_isWord_0 rfl rfl ?_
  refine At_iload_n (pc' := 2) iX9_isWord_1 rfl rfl ?_
  refine At_isub (pc' := 3) iX9_isWord_2 rfl ?_
  refine At_aload_n (pc' := 4) iX9_isWord_3 rfl rfl ?_
  refine At_slen (pc' := 7) iX9_isWord_4 rfl m_9_76 (Nat.le_of_ble_eq_true rfl) hq1 ?_
  refine At_icmp_eq (t := 12) (pc' := 10) iX9_isWord_7 (by decide) rfl (fun c7 => ?_) (fun c7 => ?_)
  · have hv := hv.1 c7
    refine At_iconst (v := nI 0) (pc' := 13) iX9_isWord_12 rfl (by decide) ?_
    refine At_istore (L' := [.ref 3, .ref (1000000 + x1), .int x2, .int x3, .int (nI 0)]) (pc' := 15) iX9_isWord_13 rfl (Nat.le_of_ble_eq_true rfl) rfl ?_
    exact hv _
  · have hv := hv.2 c7
    refine At_iconst (v := nI 0) (pc' := 11) iX9_isWord_10 rfl (by decide) ?_
    exact At_retF iX9_isWord_11 rfl hv
set_option maxRecDepth 20000 in
theorem b_X9_isWord_15 {d : Nat} {T : HT} (hL : Lay T) {h : Hp} (eT : h.2.2 = T) (x1 : Nat) (x2 : Int32) (x4 : Int32) (hq1 : x1 < 6) {Q : Option Value → Hp → Prop} (hv : ((x4 < (nI (strT.getD x1 []).length)) → ((inB (x2 + x4) 400 = true) ∧ ((inB x4 (strT.getD x1 []).length = true) ∧ ((((gI h 7 ((x2 + x4).toNatClampNeg)) = ((strT.getD x1 []).getD x4.toNatClampNeg 0)) → (L_X9_isWord_15 d x1 x2 (x4 + nI 1) h Q)) ∧ (¬ ((gI h 7 ((x2 + x4).toNatClampNeg)) = ((strT.getD x1 []).getD x4.toNatClampNeg 0)) → (Q (some (.int (b2i false))) h)))))) ∧ (¬ (x4 < (nI (strT.getD x1 []).length)) → (Q (some (.int (b2i true))) h))) : L_X9_isWord_15 d x1 x2 x4 h Q := by
  intro v3
  refine At_iload (pc' := 17) iX9_isWord_15 rfl rfl ?_
  refine At_aload_n (pc' := 18) iX9_isWord_17 rfl rfl ?_
  refine At_slen (pc' := 21) iX9_isWord_18 rfl m_9_76 (Nat.le_of_ble_eq_true rfl) hq1 ?_
  refine At_icmp_ge (t := 50) (pc' := 24) iX9_isWord_21 (by decide) rfl (fun c21 => ?_) (fun c21 => ?_)
  · have hv := hv.2 c21
    refine At_iconst (v := nI 1) (pc' := 51) iX9_isWord_50 rfl (by decide) ?_
    exact At_retT iX9_isWord_51 rfl hv
  · have hv := hv.1 c21
    refine At_aload_n (pc' := 25) iX9_isWord_24 rfl rfl ?_
    refine At_getR (pc' := 28) iX9_isWord_25 rfl f_9_28 (kdK eT (kd_3 hL)) (by decide) (rfH eT (rf_3_5 hL)) ?_
    refine At_iload_n (pc' := 29) iX9_isWord_28 rfl rfl ?_
    refine At_iload (pc' := 31) iX9_isWord_29 rfl rfl ?_
    refine At_iadd (pc' := 32) iX9_isWord_31 rfl ?_
    obtain ⟨hn1, hv⟩ := hv
    refine At_bald (pc' := 33) iX9_isWord_32 rfl (kdH eT (kd_7 hL)) hn1 (show At (d + 0) MX9_isWord 33 [.ref 3, .ref (1000000 + x1), .int x2, v3, .int x4] [.int (gI h 7 ((x2 + x4).toNatClampNeg))] h Q from ?_)
    refine At_aload_n (pc' := 34) iX9_isWord_33 rfl rfl ?_
    refine At_iload (pc' := 36) iX9_isWord_34 rfl rfl ?_
    obtain ⟨hn2, hv⟩ := hv
    refine At_schr (pc' := 39) iX9_isWord_36 rfl m_9_81 (Nat.le_of_ble_eq_true rfl) hq1 hn2 ?_
    refine At_icmp_eq (t := 44) (pc' := 42) iX9_isWord_39 (by decide) rfl (fun c39 => ?_) (fun c39 => ?_)
    · have hv := hv.1 c39
      refine At_iinc (v := nI 1) (L' := [.ref 3, .ref (1000000 + x1), .int x2, (if 0 = 0 ∧ v3.category = 2 then un else v3), .int (x4 + nI 1)]) (pc' := 47) iX9_isWord_44 rfl rfl (Nat.le_of_ble_eq_true rfl) (by decide) rfl ?_
      refine At_goto (t := 15) iX9_isWord_47 (by decide) ?_
      exact hv _
    · have hv := hv.2 c39
      refine At_iconst (v := nI 0) (pc' := 43) iX9_isWord_42 rfl (by decide) ?_
      exact At_retF iX9_isWord_43 rfl hv
-- X11_begins (loop)
def L_X11_begins_9 (d : Nat) (x1 : Int32) (x2 : Int32) (x3 : Int32) (h : Hp) (Q : Option Value → Hp → Prop) : Prop := At (d + 0) MX11_begins 9 [.ref 59, .int x1, .int x2, .int x3] [] h Q
def L_X11_begins_45 (d : Nat) (x3 : Int32) (h : Hp) (Q : Option Value → Hp → Prop) : Prop := ∀ v1 v2 : Value, At (d + 0) MX11_begins 45 [.ref 59, v1, v2, .int x3] [] h Q
def L_X11_begins_69 (d : Nat) (x3 : Int32) (h : Hp) (Q : Option Value → Hp → Prop) : Prop := ∀ v1 v2 : Value, At (d + 0) MX11_begins 69 [.ref 59, v1, v2, .int x3] [] h Q
set_option maxRecDepth 20000 in
theorem b_X11_begins {d : Nat} {T : HT} (hL : Lay T) {h : Hp} (eT : h.2.2 = T) (x1 : Int32)  {Q : Option Value → Hp → Prop} (hv : L_X11_begins_9 d x1 (gI h 60 2) (nI 0) h Q) : Call (d + 0) MX11_begins [.ref 59, .int x1] h Q := by
  show At (d + 0) MX11_begins 0 [.ref 59, .int x1, un, un] [] h Q
  refine At_aload_n (pc' := 1) iX11_begins_0 rfl rfl ?_
  refine At_getR (pc' := 4) iX11_begins_1 rfl f_11_7 (kdK eT (kd_59 hL)) (by decide) (rfH eT (rf_59_0 hL)) ?_
  refine At_iconst (v := nI 2) (pc' := 5) iX11_begins_4 rfl (by decide) ?_
  refine At_iald (pc' := 6) iX11_begins_5 rfl (kdH eT (kd_60 hL)) (by decide) (show At (d + 0) MX11_begins 6 [.ref 59, .int x1, un, un] [.int (gI h 60 2)] h Q from ?_)
  refine At_istore_n (L' := [.ref 59, .int x1, .int (gI h 60 2), un]) (pc' := 7) iX11_begins_6 rfl (Nat.le_of_ble_eq_true rfl) rfl ?_
  refine At_iconst (v := nI 0) (pc' := 8) iX11_begins_7 rfl (by decide) ?_
  refine At_istore_n (L' := [.ref 59, .int x1, .int (gI h 60 2), .int (nI 0)]) (pc' := 9) iX11_begins_8 rfl (Nat.le_of_ble_eq_true rfl) rfl ?_
  exact hv
set_option maxRecDepth 20000 in
theorem b_X11_begins_9 {d : Nat} {T : HT} (hL : Lay T) {h : Hp} (eT : h.2.2 = T) (x1 : Int32) (x2 : Int32) (x3 : Int32)  {Q : Option Value → Hp → Prop} (hv : ((x3 < (nI 4180)) → ((inB x3 4180 = true) ∧ (L_X11_begins_9 d x1 x2 (x3 + nI 1) (sI h 60 x3.toNatClampNeg (nI 0)) Q))) ∧ (¬ (x3 < (nI 4180)) → (L_X11_begins_45 d (nI 0) (sI (sI h 60 2 x2) 60 0 x1) Q))) : L_X11_begins_9 d x1 x2 x3 h Q := by
  refine At_iload_n (pc' := 10) iX11_begins_9 rfl rfl ?_
  refine At_sipush (v := nI 4180) (pc' := 13) iX11_begins_10 rfl (by decide) ?_
  refine At_icmp_ge (t := 29) (pc' := 16) iX11_begins_13 (by decide) rfl (fun c13 => ?_) (fun c13 => ?_)
  · have hv := hv.2 c13
    refine At_aload_n (pc' := 30) iX11_begins_29 rfl rfl ?_
    refine At_getR (pc' := 33) iX11_begins_30 rfl f_11_7 (kdK eT (kd_59 hL)) (by decide) (rfH eT (rf_59_0 hL)) ?_
    refine At_iconst (v := nI 2) (pc' := 34) iX11_begins_33 rfl (by decide) ?_
    refine At_iload_n (pc' := 35) iX11_begins_34 rfl rfl ?_
    refine At_iast (pc' := 36) iX11_begins_35 rfl (kdH eT (kd_60 hL)) (by decide) (show At (d + 0) MX11_begins 36 [.ref 59, .int x1, .int x2, .int x3] [] (sI h 60 2 x2) Q from ?_)
    refine At_aload_n (pc' := 37) iX11_begins_36 rfl rfl ?_
    refine At_getR (pc' := 40) iX11_begins_37 rfl f_11_7 (kdK eT (kd_59 hL)) (by decide) (rfH eT (rf_59_0 hL)) ?_
    refine At_iconst (v := nI 0) (pc' := 41) iX11_begins_40 rfl (by decide) ?_
    refine At_iload_n (pc' := 42) iX11_begins_41 rfl rfl ?_
    refine At_iast (pc' := 43) iX11_begins_42 rfl (kdH eT (kd_60 hL)) (by decide) (show At (d + 0) MX11_begins 43 [.ref 59, .int x1, .int x2, .int x3] [] (sI (sI h 60 2 x2) 60 0 x1) Q from ?_)
    refine At_iconst (v := nI 0) (pc' := 44) iX11_begins_43 rfl (by decide) ?_
    refine At_istore_n (L' := [.ref 59, .int x1, .int x2, .int (nI 0)]) (pc' := 45) iX11_begins_44 rfl (Nat.le_of_ble_eq_true rfl) rfl ?_
    exact hv _ _
  · have hv := hv.1 c13
    refine At_aload_n (pc' := 17) iX11_begins_16 rfl rfl ?_
    refine At_getR (pc' := 20) iX11_begins_17 rfl f_11_7 (kdK eT (kd_59 hL)) (by decide) (rfH eT (rf_59_0 hL)) ?_
    refine At_iload_n (pc' := 21) iX11_begins_20 rfl rfl ?_
    refine At_iconst (v := nI 0) (pc' := 22) iX11_begins_21 rfl (by decide) ?_
    obtain ⟨hn1, hv⟩ := hv
    refine At_iast (pc' := 23) iX11_begins_22 rfl (kdH eT (kd_60 hL)) hn1 (show At (d + 0) MX11_begins 23 [.ref 59, .int x1, .int x2, .int x3] [] (sI h 60 x3.toNatClampNeg (nI 0)) Q from ?_)
    refine At_iinc (v := nI 1) (L' := [.ref 59, .int x1, .int x2, .int (x3 + nI 1)]) (pc' := 26) iX11_begins_23 rfl rfl (Nat.le_of_ble_eq_true rfl) (by decide) rfl ?_
    refine At_goto (t := 9) iX11_begins_26 (by decide) ?_
    exact hv
set_option maxRecDepth 20000 in
theorem b_X11_begins_45 {d : Nat} {T : HT} (hL : Lay T) {h : Hp} (eT : h.2.2 = T) (x3 : Int32)  {Q : Option Value → Hp → Prop} (hv : ((x3 < (nI 16)) → ((inB ((nI 42) + x3) 4180 = true) ∧ (L_X11_begins_45 d (x3 + nI 1) (sI h 60 (((nI 42) + x3).toNatClampNeg) x3) Q))) ∧ (¬ (x3 < (nI 16)) → (L_X11_begins_69 d (nI 0) h Q))) : L_X11_begins_45 d x3 h Q := by
  intro v1 v2
  refine At_iload_n (pc' := 46) iX11_begins_45 rfl rfl ?_
  refine At_bipush (v := nI 16) (pc' := 48) iX11_begins_46 rfl (by decide) ?_
  refine At_icmp_ge (t := 67) (pc' := 51) iX11_begins_48 (by decide) rfl (fun c48 => ?_) (fun c48 => ?_)
  · have hv := hv.2 c48
    refine At_iconst (v := nI 0) (pc' := 68) iX11_begins_67 rfl (by decide) ?_
    refine At_istore_n (L' := [.ref 59, v1, (if 0 = 0 ∧ v2.category = 2 then un else v2), .int (nI 0)]) (pc' := 69) iX11_begins_68 rfl (Nat.le_of_ble_eq_true rfl) rfl ?_
    exact hv _ _
  · have hv := hv.1 c48
    refine At_aload_n (pc' := 52) iX11_begins_51 rfl rfl ?_
    refine At_getR (pc' := 55) iX11_begins_52 rfl f_11_7 (kdK eT (kd_59 hL)) (by decide) (rfH eT (rf_59_0 hL)) ?_
    refine At_bipush (v := nI 42) (pc' := 57) iX11_begins_55 rfl (by decide) ?_
    refine At_iload_n (pc' := 58) iX11_begins_57 rfl rfl ?_
    refine At_iadd (pc' := 59) iX11_begins_58 rfl ?_
    refine At_iload_n (pc' := 60) iX11_begins_59 rfl rfl ?_
    obtain ⟨hn1, hv⟩ := hv
    refine At_iast (pc' := 61) iX11_begins_60 rfl (kdH eT (kd_60 hL)) hn1 (show At (d + 0) MX11_begins 61 [.ref 59, v1, v2, .int x3] [] (sI h 60 (((nI 42) + x3).toNatClampNeg) x3) Q from ?_)
    refine At_iinc (v := nI 1) (L' := [.ref 59, v1, (if 0 = 0 ∧ v2.category = 2 then un else v2), .int (x3 + nI 1)]) (pc' := 64) iX11_begins_61 rfl rfl (Nat.le_of_ble_eq_true rfl) (by decide) rfl ?_
    refine At_goto (t := 45) iX11_begins_64 (by decide) ?_
    exact hv _ _
set_option maxRecDepth 20000 in
theorem b_X11_begins_69 {d : Nat} {T : HT} (hL : Lay T) {h : Hp} (eT : h.2.2 = T) (x3 : Int32)  {Q : Option Value → Hp → Prop} (hv : ((x3 < (nI 30)) → ((inB ((nI 940) + x3) 4180 = true) ∧ (L_X11_begins_69 d (x3 + nI 1) (sI h 60 (((nI 940) + x3).toNatClampNeg) (-1)) Q))) ∧ (¬ (x3 < (nI 30)) → (Q none (sI h 59 3 (nI 0))))) : L_X11_begins_69 d x3 h Q := by
  intro v1 v2
  refine At_iload_n (pc' := 70) iX11_begins_69 rfl rfl ?_
  refine At_bipush (v := nI 30) (pc' := 72) iX11_begins_70 rfl (by decide) ?_
  refine At_icmp_ge (t := 92) (pc' := 75) iX11_begins_72 (by decide) rfl (fun c72 => ?_) (fun c72 => ?_)
  · have hv := hv.2 c72
    refine At_aload_n (pc' := 93) iX11_begins_92 rfl rfl ?_
    refine At_iconst (v := nI 0) (pc' := 94) iX11_begins_93 rfl (by decide) ?_
    refine At_putI (pc' := 97) iX11_begins_94 rfl f_11_69 (kdK eT (kd_59 hL)) (Or.inl rfl) (by decide) ?_
    exact At_retV iX11_begins_97 rfl hv
  · have hv := hv.1 c72
    refine At_aload_n (pc' := 76) iX11_begins_75 rfl rfl ?_
    refine At_getR (pc' := 79) iX11_begins_76 rfl f_11_7 (kdK eT (kd_59 hL)) (by decide) (rfH eT (rf_59_0 hL)) ?_
    refine At_sipush (v := nI 940) (pc' := 82) iX11_begins_79 rfl (by decide) ?_
    refine At_iload_n (pc' := 83) iX11_begins_82 rfl rfl ?_
    refine At_iadd (pc' := 84) iX11_begins_83 rfl ?_
    refine At_iconst (v := (-1)) (pc' := 85) iX11_begins_84 rfl (by decide) ?_
    obtain ⟨hn1, hv⟩ := hv
    refine At_iast (pc' := 86) iX11_begins_85 rfl (kdH eT (kd_60 hL)) hn1 (show At (d + 0) MX11_begins 86 [.ref 59, v1, v2, .int x3] [] (sI h 60 (((nI 940) + x3).toNatClampNeg) (-1)) Q from ?_)
    refine At_iinc (v := nI 1) (L' := [.ref 59, v1, (if 0 = 0 ∧ v2.category = 2 then un else v2), .int (x3 + nI 1)]) (pc' := 89) iX11_begins_86 rfl rfl (Nat.le_of_ble_eq_true rfl) (by decide) rfl ?_
    refine At_goto (t := 69) iX11_begins_89 (by decide) ?_
    exact hv _ _
-- X11_comesAgain (loop)
def L_X11_comesAgain_2 (d : Nat) (x1 : Int32) (x2 : Int32) (x3 : Int32) (h : Hp) (Q : Option Value → Hp → Prop) : Prop := At (d + 0) MX11_comesAgain 2 [.ref 59, .int x1, .int x2, .int x3] [] h Q
set_option maxRecDepth 20000 in
theorem b_X11_comesAgain {d : Nat} {T : HT} (hL : Lay T) {h : Hp} (eT : h.2.2 = T) (x1 : Int32) (x2 : Int32)  {Q : Option Value → Hp → Prop} (hv : L_X11_comesAgain_2 d x1 x2 (nI 0) h Q) : Call (d + 0) MX11_comesAgain [.ref 59, .int x1, .int x2] h Q := by
  show At (d + 0) MX11_comesAgain 0 [.ref 59, .int x1, .int x2, un] [] h Q
  refine At_iconst (v := nI 0) (pc' := 1) iX11_comesAgain_0 rfl (by decide) ?_
  refine At_istore_n (L' := [.ref 59, .int x1, .int x2, .int (nI 0)]) (pc' := 2) iX11_comesAgain_1 rfl (Nat.le_of_ble_eq_true rfl) rfl ?_
  exact hv
set_option maxRecDepth 20000 in
theorem b_X11_comesAgain_2 {d : Nat} {T : HT} (hL : Lay T) {h : Hp} (eT : h.2.2 = T) (x1 : Int32) (x2 : Int32) (x3 : Int32)  {Q : Option Value → Hp → Prop} (hv : (((x3 + x1) < (gI h 60 3)) → ((inB (((nI 320) + ((nI 2) * x3)) + x2) 4180 = true) ∧ ((inB (((nI 320) + ((nI 2) * (x3 + x1))) + x2) 4180 = true) ∧ ((((gI h 60 ((((nI 320) + ((nI 2) * x3)) + x2).toNatClampNeg)) = (gI h 60 ((((nI 320) + ((nI 2) * (x3 + x1))) + x2).toNatClampNeg))) → (L_X11_comesAgain_2 d x1 x2 (x3 + nI 1) h Q)) ∧ (¬ ((gI h 60 ((((nI 320) + ((nI 2) * x3)) + x2).toNatClampNeg)) = (gI h 60 ((((nI 320) + ((nI 2) * (x3 + x1))) + x2).toNatClampNeg))) → (Q (some (.int (b2i false))) h)))))) ∧ (¬ ((x3 + x1) < (gI h 60 3)) → (Q (some (.int (b2i true))) h))) : L_X11_comesAgain_2 d x1 x2 x3 h Q := by
  refine At_iload_n (pc' := 3) iX11_comesAgain_2 rfl rfl ?_
  refine At_iload_n (pc' := 4) iX11_comesAgain_3 rfl rfl ?_
  refine At_iadd (pc' := 5) iX11_comesAgain_4 rfl ?_
  refine At_aload_n (pc' := 6) iX11_comesAgain_5 rfl rfl ?_
  refine At_getR (pc' := 9) iX11_comesAgain_6 rfl f_11_7 (kdK eT (kd_59 hL)) (by decide) (rfH eT (rf_59_0 hL)) ?_
  refine At_iconst (v := nI 3) (pc' := 10) iX11_comesAgain_9 rfl (by decide) ?_
  refine At_iald (pc' := 11) iX11_comesAgain_10 rfl (kdH eT (kd_60 hL)) (by decide) (show At (d + 0) MX11_comesAgain 11 [.ref 59, .int x1, .int x2, .int x3] [.int (gI h 60 3), .int (x3 + x1)] h Q from ?_)
  refine At_icmp_ge (t := 55) (pc' := 14) iX11_comesAgain_11 (by decide) rfl (fun c11 => ?_) (fun c11 => ?_)
  · have hv := hv.2 c11
    refine At_iconst (v := nI 1) (pc' := 56) iX11_comesAgain_55 rfl (by decide) ?_
    exact At_retT iX11_comesAgain_56 rfl hv
  · have hv := hv.1 c11
    refine At_aload_n (pc' := 15) iX11_comesAgain_14 rfl rfl ?_
    refine At_getR (pc' := 18) iX11_comesAgain_15 rfl f_11_7 (kdK eT (kd_59 hL)) (by decide) (rfH eT (rf_59_0 hL)) ?_
    refine At_sipush (v := nI 320) (pc' := 21) iX11_comesAgain_18 rfl (by decide) ?_
    refine At_iconst (v := nI 2) (pc' := 22) iX11_comesAgain_21 rfl (by decide) ?_
    refine At_iload_n (pc' := 23) iX11_comesAgain_22 rfl rfl ?_
    refine At_imul (pc' := 24) iX11_comesAgain_23 rfl ?_
    refine At_iadd (pc' := 25) iX11_comesAgain_24 rfl ?_
    refine At_iload_n (pc' := 26) iX11_comesAgain_25 rfl rfl ?_
    refine At_iadd (pc' := 27) iX11_comesAgain_26 rfl ?_
    obtain ⟨hn1, hv⟩ := hv
    refine At_iald (pc' := 28) iX11_comesAgain_27 rfl (kdH eT (kd_60 hL)) hn1 (show At (d + 0) MX11_comesAgain 28 [.ref 59, .int x1, .int x2, .int x3] [.int (gI h 60 ((((nI 320) + ((nI 2) * x3)) + x2).toNatClampNeg))] h Q from ?_)
    refine At_aload_n (pc' := 29) iX11_comesAgain_28 rfl rfl ?_
    refine At_getR (pc' := 32) iX11_comesAgain_29 rfl f_11_7 (kdK eT (kd_59 hL)) (by decide) (rfH eT (rf_59_0 hL)) ?_
    refine At_sipush (v := nI 320) (pc' := 35) iX11_comesAgain_32 rfl (by decide) ?_
    refine At_iconst (v := nI 2) (pc' := 36) iX11_comesAgain_35 rfl (by decide) ?_
    refine At_iload_n (pc' := 37) iX11_comesAgain_36 rfl rfl ?_
    refine At_iload_n (pc' := 38) iX11_comesAgain_37 rfl rfl ?_
    refine At_iadd (pc' := 39) iX11_comesAgain_38 rfl ?_
    refine At_imul (pc' := 40) iX11_comesAgain_39 rfl ?_
    refine At_iadd (pc' := 41) iX11_comesAgain_40 rfl ?_
    refine At_iload_n (pc' := 42) iX11_comesAgain_41 rfl rfl ?_
    refine At_iadd (pc' := 43) iX11_comesAgain_42 rfl ?_
    obtain ⟨hn2, hv⟩ := hv
    refine At_iald (pc' := 44) iX11_comesAgain_43 rfl (kdH eT (kd_60 hL)) hn2 (show At (d + 0) MX11_comesAgain 44 [.ref 59, .int x1, .int x2, .int x3] [.int (gI h 60 ((((nI 320) + ((nI 2) * (x3 + x1))) + x2).toNatClampNeg)), .int (gI h 60 ((((nI 320) + ((nI 2) * x3)) + x2).toNatClampNeg))] h Q from ?_)
    refine At_icmp_eq (t := 49) (pc' := 47) iX11_comesAgain_44 (by decide) rfl (fun c44 => ?_) (fun c44 => ?_)
    · have hv := hv.1 c44
      refine At_iinc (v := nI 1) (L' := [.ref 59, .int x1, .int x2, .int (x3 + nI 1)]) (pc' := 52) iX11_comesAgain_49 rfl rfl (Nat.le_of_ble_eq_true rfl) (by decide) rfl ?_
      refine At_goto (t := 2) iX11_comesAgain_52 (by decide) ?_
      exact hv
    · have hv := hv.2 c44
      refine At_iconst (v := nI 0) (pc' := 48) iX11_comesAgain_47 rfl (by decide) ?_
      exact At_retF iX11_comesAgain_48 rfl hv
-- X11_feed (loop)
def L_X11_feed_18 (d : Nat) (x1 : Int32) (x2 : Int32) (x3 : Int32) (x4 : Int32) (x5 : Int32) (x6 : Int32) (h : Hp) (Q : Option Value → Hp → Prop) : Prop := ∀ v7 : Value, At (d + 0) MX11_feed 18 [.ref 59, .int x1, .int x2, .int x3, .int x4, .int x5, .int x6, v7] [] h Q
set_option maxRecDepth 20000 in
theorem b_X11_feed {d : Nat} {T : HT} (hL : Lay T) {h : Hp} (eT : h.2.2 = T) (x1 : Int32) (x2 : Int32) (x3 : Int32) (x4 : Int32) (x5 : Int32)  {Q : Option Value → Hp → Prop} (hv : (((nI 400) < ((gI h 59 8) + (nI 20))) → (Q (some (.int (-1))) h)) ∧ (¬ ((nI 400) < ((gI h 59 8) + (nI 20))) → (L_X11_feed_18 d x1 x2 x3 x4 x5 (nI 0) h Q))) : Call (d + 0) MX11_feed [.ref 59, .int x1, .int x2, .int x3, .int x4, .int x5] h Q := by
  show At (d + 0) MX11_feed 0 [.ref 59, .int x1, .int x2, .int x3, .int x4, .int x5, un, un] [] h Q
  refine At_aload_n (pc' := 1) iX11_feed_0 rfl rfl ?_
  refine At_getI (pc' := 4) iX11_feed_1 rfl f_11_82 (kdK eT (kd_59 hL)) (by decide) ?_
  refine At_bipush (v := nI 20) (pc' := 6) iX11_feed_4 rfl (by decide) ?_
  refine At_iadd (pc' := 7) iX11_feed_6 rfl ?_
  refine At_sipush (v := nI 400) (pc' := 10) iX11_feed_7 rfl (by decide) ?_
  refine At_icmp_le (t := 15) (pc' := 13) iX11_feed_10 (by decide) rfl (fun c10 => ?_) (fun c10 => ?_)
  · have hv := hv.2 c10
    refine At_iconst (v := nI 0) (pc' := 16) iX11_feed_15 rfl (by decide) ?_
    refine At_istore (L' := [.ref 59, .int x1, .int x2, .int x3, .int x4, .int x5, .int (nI 0), un]) (pc' := 18) iX11_feed_16 rfl (Nat.le_of_ble_eq_true rfl) rfl ?_
    exact hv _
  · have hv := hv.1 c10
    refine At_iconst (v := (-1)) (pc' := 14) iX11_feed_13 rfl (by decide) ?_
    exact At_retI iX11_feed_14 rfl hv
set_option maxRecDepth 20000 in
theorem b_X11_feed_18 {d : Nat} {T : HT} (hL : Lay T) {h : Hp} (eT : h.2.2 = T) (x1 : Int32) (x2 : Int32) (x3 : Int32) (x4 : Int32) (x5 : Int32) (x6 : Int32)  {Q : Option Value → Hp → Prop} (hv : ((x6 < (nI 20)) → (((x6 < (nI 4)) → ((inB (gI h 59 8) 400 = true) ∧ (L_X11_feed_18 d x1 x2 x3 x4 x5 (x6 + nI 1) (sI (sI h 64 ((gI h 59 8).toNatClampNeg) ((x1 >>> (((nI 24) - ((nI 8) * (irem x6 (nI 4)))) &&& 31)) &&& (nI 255))) 59 8 ((gI (sI h 64 ((gI h 59 8).toNatClampNeg) ((x1 >>> (((nI 24) - ((nI 8) * (irem x6 (nI 4)))) &&& 31)) &&& (nI 255))) 59 8) + (nI 1))) Q))) ∧ (¬ (x6 < (nI 4)) → (((x6 < (nI 8)) → ((inB (gI h 59 8) 400 = true) ∧ (L_X11_feed_18 d x1 x2 x3 x4 x5 (x6 + nI 1) (sI (sI h 64 ((gI h 59 8).toNatClampNeg) ((x2 >>> (((nI 24) - ((nI 8) * (irem x6 (nI 4)))) &&& 31)) &&& (nI 255))) 59 8 ((gI (sI h 64 ((gI h 59 8).toNatClampNeg) ((x2 >>> (((nI 24) - ((nI 8) * (irem x6 (nI 4)))) &&& 31)) &&& (nI 255))) 59 8) + (nI 1))) Q))) ∧ (¬ (x6 < (nI 8)) → (((x6 < (nI 12)) → ((inB (gI h 59 8) 400 = true) ∧ (L_X11_feed_18 d x1 x2 x3 x4 x5 (x6 + nI 1) (sI (sI h 64 ((gI h 59 8).toNatClampNeg) ((x3 >>> (((nI 24) - ((nI 8) * (irem x6 (nI 4)))) &&& 31)) &&& (nI 255))) 59 8 ((gI (sI h 64 ((gI h 59 8).toNatClampNeg) ((x3 >>> (((nI 24) - ((nI 8) * (irem x6 (nI 4)))) &&& 31)) &&& (nI 255))) 59 8) + (nI 1))) Q))) ∧ (¬ (x6 < (nI 12)) → (((x6 < (nI 16)) → ((inB (gI h 59 8) 400 = true) ∧ (L_X11_feed_18 d x1 x2 x3 x4 x5 (x6 + nI 1) (sI (sI h 64 ((gI h 59 8).toNatClampNeg) ((x4 >>> (((nI 24) - ((nI 8) * (irem x6 (nI 4)))) &&& 31)) &&& (nI 255))) 59 8 ((gI (sI h 64 ((gI h 59 8).toNatClampNeg) ((x4 >>> (((nI 24) - ((nI 8) * (irem x6 (nI 4)))) &&& 31)) &&& (nI 255))) 59 8) + (nI 1))) Q))) ∧ (¬ (x6 < (nI 16)) → ((inB (gI h 59 8) 400 = true) ∧ (L_X11_feed_18 d x1 x2 x3 x4 x5 (x6 + nI 1) (sI (sI h 64 ((gI h 59 8).toNatClampNeg) ((x5 >>> (((nI 24) - ((nI 8) * (irem x6 (nI 4)))) &&& 31)) &&& (nI 255))) 59 8 ((gI (sI h 64 ((gI h 59 8).toNatClampNeg) ((x5 >>> (((nI 24) - ((nI 8) * (irem x6 (nI 4)))) &&& 31)) &&& (nI 255))) 59 8) + (nI 1))) Q))))))))))) ∧ (¬ (x6 < (nI 20)) → (Q (some (.int (gI h 59 8))) h))) : L_X11_feed_18 d x1 x2 x3 x4 x5 x6 h Q := by
  intro v7
  refine At_iload (pc' := 20) iX11_feed_18 rfl rfl ?_
  refine At_bipush (v := nI 20) (pc' := 22) iX11_feed_20 rfl (by decide) ?_
  refine At_icmp_ge (t := 115) (pc' := 25) iX11_feed_22 (by decide) rfl (fun c22 => ?_) (fun c22 => ?_)
  · have hv := hv.2 c22
    refine At_aload_n (pc' := 116) iX11_feed_115 rfl rfl ?_
    refine At_getI (pc' := 119) iX11_feed_116 rfl f_11_82 (kdK eT (kd_59 hL)) (by decide) ?_
    exact At_retI iX11_feed_119 rfl hv
  · have hv := hv.1 c22
    refine At_iload (pc' := 27) iX11_feed_25 rfl rfl ?_
    refine At_iconst (v := nI 4) (pc' := 28) iX11_feed_27 rfl (by decide) ?_
    refine At_icmp_ge (t := 35) (pc' := 31) iX11_feed_28 (by decide) rfl (fun c28 => ?_) (fun c28 => ?_)
    · have hv := hv.2 c28
      refine At_iload (pc' := 37) iX11_feed_35 rfl rfl ?_
      refine At_bipush (v := nI 8) (pc' := 39) iX11_feed_37 rfl (by decide) ?_
      refine At_icmp_ge (t := 46) (pc' := 42) iX11_feed_39 (by decide) rfl (fun c39 => ?_) (fun c39 => ?_)
      · have hv := hv.2 c39
        refine At_iload (pc' := 48) iX11_feed_46 rfl rfl ?_
        refine At_bipush (v := nI 12) (pc' := 50) iX11_feed_48 rfl (by decide) ?_
        refine At_icmp_ge (t := 57) (pc' := 53) iX11_feed_50 (by decide) rfl (fun c50 => ?_) (fun c50 => ?_)
        · have hv := hv.2 c50
          refine At_iload (pc' := 59) iX11_feed_57 rfl rfl ?_
          refine At_bipush (v := nI 16) (pc' := 61) iX11_feed_59 rfl (by decide) ?_
          refine At_icmp_ge (t := 69) (pc' := 64) iX11_feed_61 (by decide) rfl (fun c61 => ?_) (fun c61 => ?_)
          · have hv := hv.2 c61
            refine At_iload (pc' := 71) iX11_feed_69 rfl rfl ?_
            refine At_istore (L' := [.ref 59, .int x1, .int x2, .int x3, .int x4, .int x5, .int x6, .int x5]) (pc' := 73) iX11_feed_71 rfl (Nat.le_of_ble_eq_true rfl) rfl ?_
            refine At_aload_n (pc' := 74) iX11_feed_73 rfl rfl ?_
            refine At_getR (pc' := 77) iX11_feed_74 rfl f_11_22 (kdK eT (kd_59 hL)) (by decide) (rfH eT (rf_59_6 hL)) ?_
            refine At_aload_n (pc' := 78) iX11_feed_77 rfl rfl ?_
            refine At_getI (pc' := 81) iX11_feed_78 rfl f_11_82 (kdK eT (kd_59 hL)) (by decide) ?_
            refine At_iload (pc' := 83) iX11_feed_81 rfl rfl ?_
            refine At_bipush (v := nI 24) (pc' := 85) iX11_feed_83 rfl (by decide) ?_
            refine At_bipush (v := nI 8) (pc' := 87) iX11_feed_85 rfl (by decide) ?_
            refine At_iload (pc' := 89) iX11_feed_87 rfl rfl ?_
            refine At_iconst (v := nI 4) (pc' := 90) iX11_feed_89 rfl (by decide) ?_
            refine At_irem (pc' := 91) iX11_feed_90 rfl (by decide) ?_
            refine At_imul (pc' := 92) iX11_feed_91 rfl ?_
            refine At_isub (pc' := 93) iX11_feed_92 rfl ?_
            refine At_ishr (pc' := 94) iX11_feed_93 rfl ?_
            refine At_sipush (v := nI 255) (pc' := 97) iX11_feed_94 rfl (by decide) ?_
            refine At_iand (pc' := 98) iX11_feed_97 rfl ?_
            obtain ⟨hn1, hv⟩ := hv
            refine At_iast (pc' := 99) iX11_feed_98 rfl (kdH eT (kd_64 hL)) hn1 (show At (d + 0) MX11_feed 99 [.ref 59, .int x1, .int x2, .int x3, .int x4, .int x5, .int x6, .int x5] [] (sI h 64 ((gI h 59 8).toNatClampNeg) ((x5 >>> (((nI 24) - ((nI 8) * (irem x6 (nI 4)))) &&& 31)) &&& (nI 255))) Q from ?_)
            refine At_aload_n (pc' := 100) iX11_feed_99 rfl rfl ?_
            refine At_dup (pc' := 101) iX11_feed_100 rfl rfl ?_
            refine At_getI (pc' := 104) iX11_feed_101 rfl f_11_82 (kdK eT (kd_59 hL)) (by decide) ?_
            refine At_iconst (v := nI 1) (pc' := 105) iX11_feed_104 rfl (by decide) ?_
            refine At_iadd (pc' := 106) iX11_feed_105 rfl ?_
            refine At_putI (pc' := 109) iX11_feed_106 rfl f_11_82 (kdK eT (kd_59 hL)) (Or.inl rfl) (by decide) ?_
            refine At_iinc (v := nI 1) (L' := [.ref 59, .int x1, .int x2, .int x3, .int x4, .int x5, .int (x6 + nI 1), .int x5]) (pc' := 112) iX11_feed_109 rfl rfl (Nat.le_of_ble_eq_true rfl) (by decide) rfl ?_
            refine At_goto (t := 18) iX11_feed_112 (by decide) ?_
            exact hv _
          · have hv := hv.1 c61
            refine At_iload (pc' := 66) iX11_feed_64 rfl rfl ?_
            refine At_goto (t := 71) iX11_feed_66 (by decide) ?_
            refine At_istore (L' := [.ref 59, .int x1, .int x2, .int x3, .int x4, .int x5, .int x6, .int x4]) (pc' := 73) iX11_feed_71 rfl (Nat.le_of_ble_eq_true rfl) rfl ?_
            refine At_aload_n (pc' := 74) iX11_feed_73 rfl rfl ?_
            refine At_getR (pc' := 77) iX11_feed_74 rfl f_11_22 (kdK eT (kd_59 hL)) (by decide) (rfH eT (rf_59_6 hL)) ?_
            refine At_aload_n (pc' := 78) iX11_feed_77 rfl rfl ?_
            refine At_getI (pc' := 81) iX11_feed_78 rfl f_11_82 (kdK eT (kd_59 hL)) (by decide) ?_
            refine At_iload (pc' := 83) iX11_feed_81 rfl rfl ?_
            refine At_bipush (v := nI 24) (pc' := 85) iX11_feed_83 rfl (by decide) ?_
            refine At_bipush (v := nI 8) (pc' := 87) iX11_feed_85 rfl (by decide) ?_
            refine At_iload (pc' := 89) iX11_feed_87 rfl rfl ?_
            refine At_iconst (v := nI 4) (pc' := 90) iX11_feed_89 rfl (by decide) ?_
            refine At_irem (pc' := 91) iX11_feed_90 rfl (by decide) ?_
            refine At_imul (pc' := 92) iX11_feed_91 rfl ?_
            refine At_isub (pc' := 93) iX11_feed_92 rfl ?_
            refine At_ishr (pc' := 94) iX11_feed_93 rfl ?_
            refine At_sipush (v := nI 255) (pc' := 97) iX11_feed_94 rfl (by decide) ?_
            refine At_iand (pc' := 98) iX11_feed_97 rfl ?_
            obtain ⟨hn2, hv⟩ := hv
            refine At_iast (pc' := 99) iX11_feed_98 rfl (kdH eT (kd_64 hL)) hn2 (show At (d + 0) MX11_feed 99 [.ref 59, .int x1, .int x2, .int x3, .int x4, .int x5, .int x6, .int x4] [] (sI h 64 ((gI h 59 8).toNatClampNeg) ((x4 >>> (((nI 24) - ((nI 8) * (irem x6 (nI 4)))) &&& 31)) &&& (nI 255))) Q from ?_)
            refine At_aload_n (pc' := 100) iX11_feed_99 rfl rfl ?_
            refine At_dup (pc' := 101) iX11_feed_100 rfl rfl ?_
            refine At_getI (pc' := 104) iX11_feed_101 rfl f_11_82 (kdK eT (kd_59 hL)) (by decide) ?_
            refine At_iconst (v := nI 1) (pc' := 105) iX11_feed_104 rfl (by decide) ?_
            refine At_iadd (pc' := 106) iX11_feed_105 rfl ?_
            refine At_putI (pc' := 109) iX11_feed_106 rfl f_11_82 (kdK eT (kd_59 hL)) (Or.inl rfl) (by decide) ?_
            refine At_iinc (v := nI 1) (L' := [.ref 59, .int x1, .int x2, .int x3, .int x4, .int x5, .int (x6 + nI 1), .int x4]) (pc' := 112) iX11_feed_109 rfl rfl (Nat.le_of_ble_eq_true rfl) (by decide) rfl ?_
            refine At_goto (t := 18) iX11_feed_112 (by decide) ?_
            exact hv _
        · have hv := hv.1 c50
          refine At_iload_n (pc' := 54) iX11_feed_53 rfl rfl ?_
          refine At_goto (t := 71) iX11_feed_54 (by decide) ?_
          refine At_istore (L' := [.ref 59, .int x1, .int x2, .int x3, .int x4, .int x5, .int x6, .int x3]) (pc' := 73) iX11_feed_71 rfl (Nat.le_of_ble_eq_true rfl) rfl ?_
          refine At_aload_n (pc' := 74) iX11_feed_73 rfl rfl ?_
          refine At_getR (pc' := 77) iX11_feed_74 rfl f_11_22 (kdK eT (kd_59 hL)) (by decide) (rfH eT (rf_59_6 hL)) ?_
          refine At_aload_n (pc' := 78) iX11_feed_77 rfl rfl ?_
          refine At_getI (pc' := 81) iX11_feed_78 rfl f_11_82 (kdK eT (kd_59 hL)) (by decide) ?_
          refine At_iload (pc' := 83) iX11_feed_81 rfl rfl ?_
          refine At_bipush (v := nI 24) (pc' := 85) iX11_feed_83 rfl (by decide) ?_
          refine At_bipush (v := nI 8) (pc' := 87) iX11_feed_85 rfl (by decide) ?_
          refine At_iload (pc' := 89) iX11_feed_87 rfl rfl ?_
          refine At_iconst (v := nI 4) (pc' := 90) iX11_feed_89 rfl (by decide) ?_
          refine At_irem (pc' := 91) iX11_feed_90 rfl (by decide) ?_
          refine At_imul (pc' := 92) iX11_feed_91 rfl ?_
          refine At_isub (pc' := 93) iX11_feed_92 rfl ?_
          refine At_ishr (pc' := 94) iX11_feed_93 rfl ?_
          refine At_sipush (v := nI 255) (pc' := 97) iX11_feed_94 rfl (by decide) ?_
          refine At_iand (pc' := 98) iX11_feed_97 rfl ?_
          obtain ⟨hn3, hv⟩ := hv
          refine At_iast (pc' := 99) iX11_feed_98 rfl (kdH eT (kd_64 hL)) hn3 (show At (d + 0) MX11_feed 99 [.ref 59, .int x1, .int x2, .int x3, .int x4, .int x5, .int x6, .int x3] [] (sI h 64 ((gI h 59 8).toNatClampNeg) ((x3 >>> (((nI 24) - ((nI 8) * (irem x6 (nI 4)))) &&& 31)) &&& (nI 255))) Q from ?_)
          refine At_aload_n (pc' := 100) iX11_feed_99 rfl rfl ?_
          refine At_dup (pc' := 101) iX11_feed_100 rfl rfl ?_
          refine At_getI (pc' := 104) iX11_feed_101 rfl f_11_82 (kdK eT (kd_59 hL)) (by decide) ?_
          refine At_iconst (v := nI 1) (pc' := 105) iX11_feed_104 rfl (by decide) ?_
          refine At_iadd (pc' := 106) iX11_feed_105 rfl ?_
          refine At_putI (pc' := 109) iX11_feed_106 rfl f_11_82 (kdK eT (kd_59 hL)) (Or.inl rfl) (by decide) ?_
          refine At_iinc (v := nI 1) (L' := [.ref 59, .int x1, .int x2, .int x3, .int x4, .int x5, .int (x6 + nI 1), .int x3]) (pc' := 112) iX11_feed_109 rfl rfl (Nat.le_of_ble_eq_true rfl) (by decide) rfl ?_
          refine At_goto (t := 18) iX11_feed_112 (by decide) ?_
          exact hv _
      · have hv := hv.1 c39
        refine At_iload_n (pc' := 43) iX11_feed_42 rfl rfl ?_
        refine At_goto (t := 71) iX11_feed_43 (by decide) ?_
        refine At_istore (L' := [.ref 59, .int x1, .int x2, .int x3, .int x4, .int x5, .int x6, .int x2]) (pc' := 73) iX11_feed_71 rfl (Nat.le_of_ble_eq_true rfl) rfl ?_
        refine At_aload_n (pc' := 74) iX11_feed_73 rfl rfl ?_
        refine At_getR (pc' := 77) iX11_feed_74 rfl f_11_22 (kdK eT (kd_59 hL)) (by decide) (rfH eT (rf_59_6 hL)) ?_
        refine At_aload_n (pc' := 78) iX11_feed_77 rfl rfl ?_
        refine At_getI (pc' := 81) iX11_feed_78 rfl f_11_82 (kdK eT (kd_59 hL)) (by decide) ?_
        refine At_iload (pc' := 83) iX11_feed_81 rfl rfl ?_
        refine At_bipush (v := nI 24) (pc' := 85) iX11_feed_83 rfl (by decide) ?_
        refine At_bipush (v := nI 8) (pc' := 87) iX11_feed_85 rfl (by decide) ?_
        refine At_iload (pc' := 89) iX11_feed_87 rfl rfl ?_
        refine At_iconst (v := nI 4) (pc' := 90) iX11_feed_89 rfl (by decide) ?_
        refine At_irem (pc' := 91) iX11_feed_90 rfl (by decide) ?_
        refine At_imul (pc' := 92) iX11_feed_91 rfl ?_
        refine At_isub (pc' := 93) iX11_feed_92 rfl ?_
        refine At_ishr (pc' := 94) iX11_feed_93 rfl ?_
        refine At_sipush (v := nI 255) (pc' := 97) iX11_feed_94 rfl (by decide) ?_
        refine At_iand (pc' := 98) iX11_feed_97 rfl ?_
        obtain ⟨hn4, hv⟩ := hv
        refine At_iast (pc' := 99) iX11_feed_98 rfl (kdH eT (kd_64 hL)) hn4 (show At (d + 0) MX11_feed 99 [.ref 59, .int x1, .int x2, .int x3, .int x4, .int x5, .int x6, .int x2] [] (sI h 64 ((gI h 59 8).toNatClampNeg) ((x2 >>> (((nI 24) - ((nI 8) * (irem x6 (nI 4)))) &&& 31)) &&& (nI 255))) Q from ?_)
        refine At_aload_n (pc' := 100) iX11_feed_99 rfl rfl ?_
        refine At_dup (pc' := 101) iX11_feed_100 rfl rfl ?_
        refine At_getI (pc' := 104) iX11_feed_101 rfl f_11_82 (kdK eT (kd_59 hL)) (by decide) ?_
        refine At_iconst (v := nI 1) (pc' := 105) iX11_feed_104 rfl (by decide) ?_
        refine At_iadd (pc' := 106) iX11_feed_105 rfl ?_
        refine At_putI (pc' := 109) iX11_feed_106 rfl f_11_82 (kdK eT (kd_59 hL)) (Or.inl rfl) (by decide) ?_
        refine At_iinc (v := nI 1) (L' := [.ref 59, .int x1, .int x2, .int x3, .int x4, .int x5, .int (x6 + nI 1), .int x2]) (pc' := 112) iX11_feed_109 rfl rfl (Nat.le_of_ble_eq_true rfl) (by decide) rfl ?_
        refine At_goto (t := 18) iX11_feed_112 (by decide) ?_
        exact hv _
    · have hv := hv.1 c28
      refine At_iload_n (pc' := 32) iX11_feed_31 rfl rfl ?_
      refine At_goto (t := 71) iX11_feed_32 (by decide) ?_
      refine At_istore (L' := [.ref 59, .int x1, .int x2, .int x3, .int x4, .int x5, .int x6, .int x1]) (pc' := 73) iX11_feed_71 rfl (Nat.le_of_ble_eq_true rfl) rfl ?_
      refine At_aload_n (pc' := 74) iX11_feed_73 rfl rfl ?_
      refine At_getR (pc' := 77) iX11_feed_74 rfl f_11_22 (kdK eT (kd_59 hL)) (by decide) (rfH eT (rf_59_6 hL)) ?_
      refine At_aload_n (pc' := 78) iX11_feed_77 rfl rfl ?_
      refine At_getI (pc' := 81) iX11_feed_78 rfl f_11_82 (kdK eT (kd_59 hL)) (by decide) ?_
      refine At_iload (pc' := 83) iX11_feed_81 rfl rfl ?_
      refine At_bipush (v := nI 24) (pc' := 85) iX11_feed_83 rfl (by decide) ?_
      refine At_bipush (v := nI 8) (pc' := 87) iX11_feed_85 rfl (by decide) ?_
      refine At_iload (pc' := 89) iX11_feed_87 rfl rfl ?_
      refine At_iconst (v := nI 4) (pc' := 90) iX11_feed_89 rfl (by decide) ?_
      refine At_irem (pc' := 91) iX11_feed_90 rfl (by decide) ?_
      refine At_imul (pc' := 92) iX11_feed_91 rfl ?_
      refine At_isub (pc' := 93) iX11_feed_92 rfl ?_
      refine At_ishr (pc' := 94) iX11_feed_93 rfl ?_
      refine At_sipush (v := nI 255) (pc' := 97) iX11_feed_94 rfl (by decide) ?_
      refine At_iand (pc' := 98) iX11_feed_97 rfl ?_
      obtain ⟨hn5, hv⟩ := hv
      refine At_iast (pc' := 99) iX11_feed_98 rfl (kdH eT (kd_64 hL)) hn5 (show At (d + 0) MX11_feed 99 [.ref 59, .int x1, .int x2, .int x3, .int x4, .int x5, .int x6, .int x1] [] (sI h 64 ((gI h 59 8).toNatClampNeg) ((x1 >>> (((nI 24) - ((nI 8) * (irem x6 (nI 4)))) &&& 31)) &&& (nI 255))) Q from ?_)
      refine At_aload_n (pc' := 100) iX11_feed_99 rfl rfl ?_
      refine At_dup (pc' := 101) iX11_feed_100 rfl rfl ?_
      refine At_getI (pc' := 104) iX11_feed_101 rfl f_11_82 (kdK eT (kd_59 hL)) (by decide) ?_
      refine At_iconst (v := nI 1) (pc' := 105) iX11_feed_104 rfl (by decide) ?_
      refine At_iadd (pc' := 106) iX11_feed_105 rfl ?_
      refine At_putI (pc' := 109) iX11_feed_106 rfl f_11_82 (kdK eT (kd_59 hL)) (Or.inl rfl) (by decide) ?_
      refine At_iinc (v := nI 1) (L' := [.ref 59, .int x1, .int x2, .int x3, .int x4, .int x5, .int (x6 + nI 1), .int x1]) (pc' := 112) iX11_feed_109 rfl rfl (Nat.le_of_ble_eq_true rfl) (by decide) rfl ?_
      refine At_goto (t := 18) iX11_feed_112 (by decide) ?_
      exact hv _
-- X11_image (loop)
def L_X11_image_15 (d : Nat) (x1 : Int32) (x2 : Int32) (h : Hp) (Q : Option Value → Hp → Prop) : Prop := At (d + 0) MX11_image 15 [.ref 59, .int x1, .int x2] [] h Q
set_option maxRecDepth 20000 in
theorem b_X11_image {d : Nat} {T : HT} (hL : Lay T) {h : Hp} (eT : h.2.2 = T) (x1 : Int32)  {Q : Option Value → Hp → Prop} (hv : ((x1 = 0) → ((((gI h 59 4) = 0) → (Q (some (.int (b2i false))) h)) ∧ (¬ ((gI h 59 4) = 0) → (L_X11_image_15 d x1 (nI 0) h Q)))) ∧ (¬ (x1 = 0) → (L_X11_image_15 d x1 (nI 0) h Q))) : Call (d + 0) MX11_image [.ref 59, .int x1] h Q := by
  show At (d + 0) MX11_image 0 [.ref 59, .int x1, un] [] h Q
  refine At_iload_n (pc' := 1) iX11_image_0 rfl rfl ?_
  refine At_if_ne (t := 13) (pc' := 4) iX11_image_1 (by decide) rfl (fun c1 => ?_) (fun c1 => ?_)
  · have hv := hv.2 c1
    refine At_iconst (v := nI 0) (pc' := 14) iX11_image_13 rfl (by decide) ?_
    refine At_istore_n (L' := [.ref 59, .int x1, .int (nI 0)]) (pc' := 15) iX11_image_14 rfl (Nat.le_of_ble_eq_true rfl) rfl ?_
    exact hv
  · have hv := hv.1 c1
    refine At_aload_n (pc' := 5) iX11_image_4 rfl rfl ?_
    refine At_getI (pc' := 8) iX11_image_5 rfl f_11_279 (kdK eT (kd_59 hL)) (by decide) ?_
    refine At_if_ne (t := 13) (pc' := 11) iX11_image_8 (by decide) rfl (fun c8 => ?_) (fun c8 => ?_)
    · have hv := hv.2 c8
      refine At_iconst (v := nI 0) (pc' := 14) iX11_image_13 rfl (by decide) ?_
      refine At_istore_n (L' := [.ref 59, .int x1, .int (nI 0)]) (pc' := 15) iX11_image_14 rfl (Nat.le_of_ble_eq_true rfl) rfl ?_
      exact hv
    · have hv := hv.1 c8
      refine At_iconst (v := nI 0) (pc' := 12) iX11_image_11 rfl (by decide) ?_
      exact At_retF iX11_image_12 rfl hv
set_option maxRecDepth 20000 in
theorem b_X11_image_15 {d : Nat} {T : HT} (hL : Lay T) {h : Hp} (eT : h.2.2 = T) (x1 : Int32) (x2 : Int32)  {Q : Option Value → Hp → Prop} (hv : ((x2 < (nI 4180)) → (((x1 = 0) → ((inB x2 4180 = true) ∧ ((inB x2 4180 = true) ∧ (L_X11_image_15 d x1 (x2 + nI 1) (sI h 60 x2.toNatClampNeg (gI h 61 x2.toNatClampNeg)) Q)))) ∧ (¬ (x1 = 0) → ((inB x2 4180 = true) ∧ ((inB x2 4180 = true) ∧ (L_X11_image_15 d x1 (x2 + nI 1) (sI h 61 x2.toNatClampNeg (gI h 60 x2.toNatClampNeg)) Q)))))) ∧ (¬ (x2 < (nI 4180)) → (((x1 = 0) → (Q (some (.int (b2i true))) (sI (sI h 59 3 (nI 0)) 59 4 (nI 1)))) ∧ (¬ (x1 = 0) → (Q (some (.int (b2i true))) (sI h 59 4 (nI 1))))))) : L_X11_image_15 d x1 x2 h Q := by
  refine At_iload_n (pc' := 16) iX11_image_15 rfl rfl ?_
  refine At_sipush (v := nI 4180) (pc' := 19) iX11_image_16 rfl (by decide) ?_
  refine At_icmp_ge (t := 59) (pc' := 22) iX11_image_19 (by decide) rfl (fun c19 => ?_) (fun c19 => ?_)
  · have hv := hv.2 c19
    refine At_iload_n (pc' := 60) iX11_image_59 rfl rfl ?_
    refine At_if_ne (t := 68) (pc' := 63) iX11_image_60 (by decide) rfl (fun c60 => ?_) (fun c60 => ?_)
    · have hv := hv.2 c60
      refine At_aload_n (pc' := 69) iX11_image_68 rfl rfl ?_
      refine At_iconst (v := nI 1) (pc' := 70) iX11_image_69 rfl (by decide) ?_
      refine At_putZ (pc' := 73) iX11_image_70 rfl f_11_279 (kdK eT (kd_59 hL)) (Or.inl rfl) (by decide) (Or.inr rfl) ?_
      refine At_iconst (v := nI 1) (pc' := 74) iX11_image_73 rfl (by decide) ?_
      exact At_retT iX11_image_74 rfl hv
    · have hv := hv.1 c60
      refine At_aload_n (pc' := 64) iX11_image_63 rfl rfl ?_
      refine At_iconst (v := nI 0) (pc' := 65) iX11_image_64 rfl (by decide) ?_
      refine At_putI (pc' := 68) iX11_image_65 rfl f_11_69 (kdK eT (kd_59 hL)) (Or.inl rfl) (by decide) ?_
      refine At_aload_n (pc' := 69) iX11_image_68 rfl rfl ?_
      refine At_iconst (v := nI 1) (pc' := 70) iX11_image_69 rfl (by decide) ?_
      refine At_putZ (pc' := 73) iX11_image_70 rfl f_11_279 (kdK eT (kd_59 hL)) (Or.inl rfl) (by decide) (Or.inr rfl) ?_
      refine At_iconst (v := nI 1) (pc' := 74) iX11_image_73 rfl (by decide) ?_
      exact At_retT iX11_image_74 rfl hv
  · have hv := hv.1 c19
    refine At_iload_n (pc' := 23) iX11_image_22 rfl rfl ?_
    refine At_if_eq (t := 41) (pc' := 26) iX11_image_23 (by decide) rfl (fun c23 => ?_) (fun c23 => ?_)
    · have hv := hv.1 c23
      refine At_aload_n (pc' := 42) iX11_image_41 rfl rfl ?_
      refine At_getR (pc' := 45) iX11_image_42 rfl f_11_7 (kdK eT (kd_59 hL)) (by decide) (rfH eT (rf_59_0 hL)) ?_
      refine At_iload_n (pc' := 46) iX11_image_45 rfl rfl ?_
      refine At_aload_n (pc' := 47) iX11_image_46 rfl rfl ?_
      refine At_getR (pc' := 50) iX11_image_47 rfl f_11_13 (kdK eT (kd_59 hL)) (by decide) (rfH eT (rf_59_1 hL)) ?_
      refine At_iload_n (pc' := 51) iX11_image_50 rfl rfl ?_
      obtain ⟨hn1, hv⟩ := hv
      refine At_iald (pc' := 52) iX11_image_51 rfl (kdH eT (kd_61 hL)) hn1 (show At (d + 0) MX11_image 52 [.ref 59, .int x1, .int x2] [.int (gI h 61 x2.toNatClampNeg), .int x2, .ref 60] h Q from ?_)
      obtain ⟨hn2, hv⟩ := hv
      refine At_iast (pc' := 53) iX11_image_52 rfl (kdH eT (kd_60 hL)) hn2 (show At (d + 0) MX11_image 53 [.ref 59, .int x1, .int x2] [] (sI h 60 x2.toNatClampNeg (gI h 61 x2.toNatClampNeg)) Q from ?_)
      refine At_iinc (v := nI 1) (L' := [.ref 59, .int x1, .int (x2 + nI 1)]) (pc' := 56) iX11_image_53 rfl rfl (Nat.le_of_ble_eq_true rfl) (by decide) rfl ?_
      refine At_goto (t := 15) iX11_image_56 (by decide) ?_
      exact hv
    · have hv := hv.2 c23
      refine At_aload_n (pc' := 27) iX11_image_26 rfl rfl ?_
      refine At_getR (pc' := 30) iX11_image_27 rfl f_11_13 (kdK eT (kd_59 hL)) (by decide) (rfH eT (rf_59_1 hL)) ?_
      refine At_iload_n (pc' := 31) iX11_image_30 rfl rfl ?_
      refine At_aload_n (pc' := 32) iX11_image_31 rfl rfl ?_
      refine At_getR (pc' := 35) iX11_image_32 rfl f_11_7 (kdK eT (kd_59 hL)) (by decide) (rfH eT (rf_59_0 hL)) ?_
      refine At_iload_n (pc' := 36) iX11_image_35 rfl rfl ?_
      obtain ⟨hn3, hv⟩ := hv
      refine At_iald (pc' := 37) iX11_image_36 rfl (kdH eT (kd_60 hL)) hn3 (show At (d + 0) MX11_image 37 [.ref 59, .int x1, .int x2] [.int (gI h 60 x2.toNatClampNeg), .int x2, .ref 61] h Q from ?_)
      obtain ⟨hn4, hv⟩ := hv
      refine At_iast (pc' := 38) iX11_image_37 rfl (kdH eT (kd_61 hL)) hn4 (show At (d + 0) MX11_image 38 [.ref 59, .int x1, .int x2] [] (sI h 61 x2.toNatClampNeg (gI h 60 x2.toNatClampNeg)) Q from ?_)
      refine At_goto (t := 53) iX11_image_38 (by decide) ?_
      refine At_iinc (v := nI 1) (L' := [.ref 59, .int x1, .int (x2 + nI 1)]) (pc' := 56) iX11_image_53 rfl rfl (Nat.le_of_ble_eq_true rfl) (by decide) rfl ?_
      refine At_goto (t := 15) iX11_image_56 (by decide) ?_
      exact hv
-- X11_is (loop)
def L_X11_is_24 (d : Nat) (x1 : Nat) (x2 : Int32) (x3 : Int32) (h : Hp) (Q : Option Value → Hp → Prop) : Prop := At (d + 0) MX11_is 24 [.ref 59, .ref (1000000 + x1), .int x2, .int x3] [] h Q
set_option maxRecDepth 20000 in
theorem b_X11_is {d : Nat} {T : HT} (hL : Lay T) {h : Hp} (eT : h.2.2 = T) (x1 : Nat) (hq1 : x1 < 6) {Q : Option Value → Hp → Prop} (hv : ((((gI h 59 9) - (gI h 59 11)) = (nI (strT.getD x1 []).length)) → (L_X11_is_24 d x1 (nI 1) (nI 0) h Q)) ∧ (¬ (((gI h 59 9) - (gI h 59 11)) = (nI (strT.getD x1 []).length)) → (L_X11_is_24 d x1 (nI 0) (nI 0) h Q))) : Call (d + 0) MX11_is [.ref 59, .ref (1000000 + x1)] h Q := by
  show At (d + 0) MX11_is 0 [.ref 59, .ref (1000000 + x1), un, un] [] h Q
  refine At_aload_n (pc' := 1) iX11_is_0 rfl rfl ?_
  refine At_getI (pc' := 4) iX11_is_1 rfl f_11_85 (kdK eT (kd_59 hL)) (by decide) ?_
  refine At_aload_n (pc' := 5) iX11_is_4 rfl rfl ?_
  refine At_getI (pc' := 8) iX11_is_5 rfl f_11_88 (kdK eT (kd_59 hL)) (by decide) ?_
  refine At_isub (pc' := 9) iX11_is_8 rfl ?_
  refine At_aload_n (pc' := 10) iX11_is_9 rfl rfl ?_
  refine At_slen (pc' := 13) iX11_is_10 rfl m_11_91 (Nat.le_of_ble_eq_true rfl) hq1 ?_
  refine At_icmp_ne (t := 20) (pc' := 16) iX11_is_13 (by decide) rfl (fun c13 => ?_) (fun c13 => ?_)
  · have hv := hv.2 c13
    refine At_iconst (v := nI 0) (pc' := 21) iX11_is_20 rfl (by decide) ?_
    refine At_istore_n (L' := [.ref 59, .ref (1000000 + x1), .int (nI 0), un]) (pc' := 22) iX11_is_21 rfl (Nat.le_of_ble_eq_true rfl) rfl ?_
    refine At_iconst (v := nI 0) (pc' := 23) iX11_is_22 rfl (by decide) ?_
    refine At_istore_n (L' := [.ref 59, .ref (1000000 + x1), .int (nI 0), .int (nI 0)]) (pc' := 24) iX11_is_23 rfl (Nat.le_of_ble_eq_true rfl) rfl ?_
    exact hv
  · have hv := hv.1 c13
    refine At_iconst (v := nI 1) (pc' := 17) iX11_is_16 rfl (by decide) ?_
    refine At_goto (t := 21) iX11_is_17 (by decide) ?_
    refine At_istore_n (L' := [.ref 59, .ref (1000000 + x1), .int (nI 1), un]) (pc' := 22) iX11_is_21 rfl (Nat.le_of_ble_eq_true rfl) rfl ?_
    refine At_iconst (v := nI 0) (pc' := 23) iX11_is_22 rfl (by decide) ?_
    refine At_istore_n (L' := [.ref 59, .ref (1000000 + x1), .int (nI 1), .int (nI 0)]) (pc' := 24) iX11_is_23 rfl (Nat.le_of_ble_eq_true rfl) rfl ?_
    exact hv
set_option maxRecDepth 20000 in
theorem b_X11_is_24 {d : Nat} {T : HT} (hL : Lay T) {h : Hp} (eT : h.2.2 = T) (x1 : Nat) (x2 : Int32) (x3 : Int32) (hq1 : x1 < 6) {Q : Option Value → Hp → Prop} (hv : ((x3 < (nI (strT.getD x1 []).length)) → (((x2 = 0) → ((x2 = 0 ∨ x2 = 1) ∧ (Q (some (.int x2)) h))) ∧ (¬ (x2 = 0) → ((inB ((gI h 59 11) + x3) 400 = true) ∧ ((inB x3 (strT.getD x1 []).length = true) ∧ ((((gI h 64 (((gI h 59 11) + x3).toNatClampNeg)) = ((strT.getD x1 []).getD x3.toNatClampNeg 0)) → (L_X11_is_24 d x1 (nI 1) (x3 + nI 1) h Q)) ∧ (¬ ((gI h 64 (((gI h 59 11) + x3).toNatClampNeg)) = ((strT.getD x1 []).getD x3.toNatClampNeg 0)) → (L_X11_is_24 d x1 (nI 0) (x3 + nI 1) h Q)))))))) ∧ (¬ (x3 < (nI (strT.getD x1 []).length)) → ((x2 = 0 ∨ x2 = 1) ∧ (Q (some (.int x2)) h)))) : L_X11_is_24 d x1 x2 x3 h Q := by
  refine At_iload_n (pc' := 25) iX11_is_24 rfl rfl ?_
  refine At_aload_n (pc' := 26) iX11_is_25 rfl rfl ?_
  refine At_slen (pc' := 29) iX11_is_26 rfl m_11_91 (Nat.le_of_ble_eq_true rfl) hq1 ?_
  refine At_icmp_ge (t := 67) (pc' := 32) iX11_is_29 (by decide) rfl (fun c29 => ?_) (fun c29 => ?_)
  · have hv := hv.2 c29
    refine At_iload_n (pc' := 68) iX11_is_67 rfl rfl ?_
    obtain ⟨hn1, hv⟩ := hv
    exact At_retZ iX11_is_68 rfl hn1 hv
  · have hv := hv.1 c29
    refine At_iload_n (pc' := 33) iX11_is_32 rfl rfl ?_
    refine At_if_eq (t := 67) (pc' := 36) iX11_is_33 (by decide) rfl (fun c33 => ?_) (fun c33 => ?_)
    · have hv := hv.1 c33
      refine At_iload_n (pc' := 68) iX11_is_67 rfl rfl ?_
      obtain ⟨hn2, hv⟩ := hv
      exact At_retZ iX11_is_68 rfl hn2 hv
    · have hv := hv.2 c33
      refine At_aload_n (pc' := 37) iX11_is_36 rfl rfl ?_
      refine At_getR (pc' := 40) iX11_is_37 rfl f_11_22 (kdK eT (kd_59 hL)) (by decide) (rfH eT (rf_59_6 hL)) ?_
      refine At_aload_n (pc' := 41) iX11_is_40 rfl rfl ?_
      refine At_getI (pc' := 44) iX11_is_41 rfl f_11_88 (kdK eT (kd_59 hL)) (by decide) ?_
      refine At_iload_n (pc' := 45) iX11_is_44 rfl rfl ?_
      refine At_iadd (pc' := 46) iX11_is_45 rfl ?_
      obtain ⟨hn3, hv⟩ := hv
      refine At_iald (pc' := 47) iX11_is_46 rfl (kdH eT (kd_64 hL)) hn3 (show At (d + 0) MX11_is 47 [.ref 59, .ref (1000000 + x1), .int x2, .int x3] [.int (gI h 64 (((gI h 59 11) + x3).toNatClampNeg))] h Q from ?_)
      refine At_aload_n (pc' := 48) iX11_is_47 rfl rfl ?_
      refine At_iload_n (pc' := 49) iX11_is_48 rfl rfl ?_
      obtain ⟨hn4, hv⟩ := hv
      refine At_schr (pc' := 52) iX11_is_49 rfl m_11_97 (Nat.le_of_ble_eq_true rfl) hq1 hn4 ?_
      refine At_icmp_ne (t := 59) (pc' := 55) iX11_is_52 (by decide) rfl (fun c52 => ?_) (fun c52 => ?_)
      · have hv := hv.2 c52
        refine At_iconst (v := nI 0) (pc' := 60) iX11_is_59 rfl (by decide) ?_
        refine At_istore_n (L' := [.ref 59, .ref (1000000 + x1), .int (nI 0), .int x3]) (pc' := 61) iX11_is_60 rfl (Nat.le_of_ble_eq_true rfl) rfl ?_
        refine At_iinc (v := nI 1) (L' := [.ref 59, .ref (1000000 + x1), .int (nI 0), .int (x3 + nI 1)]) (pc' := 64) iX11_is_61 rfl rfl (Nat.le_of_ble_eq_true rfl) (by decide) rfl ?_
        refine At_goto (t := 24) iX11_is_64 (by decide) ?_
        exact hv
      · have hv := hv.1 c52
        refine At_iconst (v := nI 1) (pc' := 56) iX11_is_55 rfl (by decide) ?_
        refine At_goto (t := 60) iX11_is_56 (by decide) ?_
        refine At_istore_n (L' := [.ref 59, .ref (1000000 + x1), .int (nI 1), .int x3]) (pc' := 61) iX11_is_60 rfl (Nat.le_of_ble_eq_true rfl) rfl ?_
        refine At_iinc (v := nI 1) (L' := [.ref 59, .ref (1000000 + x1), .int (nI 1), .int (x3 + nI 1)]) (pc' := 64) iX11_is_61 rfl rfl (Nat.le_of_ble_eq_true rfl) (by decide) rfl ?_
        refine At_goto (t := 24) iX11_is_64 (by decide) ?_
        exact hv
-- X11_isAsNow (loop)
def L_X11_isAsNow_2 (d : Nat) (x1 : Int32) (x2 : Int32) (h : Hp) (Q : Option Value → Hp → Prop) : Prop := ∀ v3 : Value, At (d + 0) MX11_isAsNow 2 [.ref 59, .int x1, .int x2, v3] [] h Q
set_option maxRecDepth 20000 in
theorem b_X11_isAsNow {d : Nat} {T : HT} (hL : Lay T) {h : Hp} (eT : h.2.2 = T) (x1 : Int32)  {Q : Option Value → Hp → Prop} (hv : L_X11_isAsNow_2 d x1 (nI 0) h Q) : Call (d + 0) MX11_isAsNow [.ref 59, .int x1] h Q := by
  show At (d + 0) MX11_isAsNow 0 [.ref 59, .int x1, un, un] [] h Q
  refine At_iconst (v := nI 0) (pc' := 1) iX11_isAsNow_0 rfl (by decide) ?_
  refine At_istore_n (L' := [.ref 59, .int x1, .int (nI 0), un]) (pc' := 2) iX11_isAsNow_1 rfl (Nat.le_of_ble_eq_true rfl) rfl ?_
  exact hv _
set_option maxRecDepth 20000 in
theorem b_X11_isAsNow_2 {d : Nat} {T : HT} (hL : Lay T) {h : Hp} (eT : h.2.2 = T) (x1 : Int32) (x2 : Int32)  {Q : Option Value → Hp → Prop} (hv : ((x2 < (gI h 60 0)) → ((inB ((nI 42) + x2) 4180 = true) ∧ (((x1 = 0) → ((inB x2 16 = true) ∧ ((((gI h 65 x2.toNatClampNeg) = (gI h 60 (((nI 42) + x2).toNatClampNeg))) → (L_X11_isAsNow_2 d x1 (x2 + nI 1) h Q)) ∧ (¬ ((gI h 65 x2.toNatClampNeg) = (gI h 60 (((nI 42) + x2).toNatClampNeg))) → (Q (some (.int (b2i false))) h))))) ∧ (¬ (x1 = 0) → ((inB x2 16 = true) ∧ ((inB ((nI 10) + (gI h 65 x2.toNatClampNeg)) 4180 = true) ∧ ((inB ((nI 10) + (gI h 60 (((nI 42) + x2).toNatClampNeg))) 4180 = true) ∧ ((((gI h 60 (((nI 10) + (gI h 65 x2.toNatClampNeg)).toNatClampNeg)) = (gI h 60 (((nI 10) + (gI h 60 (((nI 42) + x2).toNatClampNeg))).toNatClampNeg))) → (L_X11_isAsNow_2 d x1 (x2 + nI 1) h Q)) ∧ (¬ ((gI h 60 (((nI 10) + (gI h 65 x2.toNatClampNeg)).toNatClampNeg)) = (gI h 60 (((nI 10) + (gI h 60 (((nI 42) + x2).toNatClampNeg))).toNatClampNeg))) → (Q (some (.int (b2i false))) h)))))))))) ∧ (¬ (x2 < (gI h 60 0)) → (Q (some (.int (b2i true))) h))) : L_X11_isAsNow_2 d x1 x2 h Q := by
  intro v3
  refine At_iload_n (pc' := 3) iX11_isAsNow_2 rfl rfl ?_
  refine At_aload_n (pc' := 4) iX11_isAsNow_3 rfl rfl ?_
  refine At_getR (pc' := 7) iX11_isAsNow_4 rfl f_11_7 (kdK eT (kd_59 hL)) (by decide) (rfH eT (rf_59_0 hL)) ?_
  refine At_iconst (v := nI 0) (pc' := 8) iX11_isAsNow_7 rfl (by decide) ?_
  refine At_iald (pc' := 9) iX11_isAsNow_8 rfl (kdH eT (kd_60 hL)) (by decide) (show At (d + 0) MX11_isAsNow 9 [.ref 59, .int x1, .int x2, v3] [.int (gI h 60 0), .int x2] h Q from ?_)
  refine At_icmp_ge (t := 73) (pc' := 12) iX11_isAsNow_9 (by decide) rfl (fun c9 => ?_) (fun c9 => ?_)
  · have hv := hv.2 c9
    refine At_iconst (v := nI 1) (pc' := 74) iX11_isAsNow_73 rfl (by decide) ?_
    exact At_retT iX11_isAsNow_74 rfl hv
  · have hv := hv.1 c9
    refine At_aload_n (pc' := 13) iX11_isAsNow_12 rfl rfl ?_
    refine At_getR (pc' := 16) iX11_isAsNow_13 rfl f_11_7 (kdK eT (kd_59 hL)) (by decide) (rfH eT (rf_59_0 hL)) ?_
    refine At_bipush (v := nI 42) (pc' := 18) iX11_isAsNow_16 rfl (by decide) ?_
    refine At_iload_n (pc' := 19) iX11_isAsNow_18 rfl rfl ?_
    refine At_iadd (pc' := 20) iX11_isAsNow_19 rfl ?_
    obtain ⟨hn1, hv⟩ := hv
    refine At_iald (pc' := 21) iX11_isAsNow_20 rfl (kdH eT (kd_60 hL)) hn1 (show At (d + 0) MX11_isAsNow 21 [.ref 59, .int x1, .int x2, v3] [.int (gI h 60 (((nI 42) + x2).toNatClampNeg))] h Q from ?_)
    refine At_istore_n (L' := [.ref 59, .int x1, .int x2, .int (gI h 60 (((nI 42) + x2).toNatClampNeg))]) (pc' := 22) iX11_isAsNow_21 rfl (Nat.le_of_ble_eq_true rfl) rfl ?_
    refine At_iload_n (pc' := 23) iX11_isAsNow_22 rfl rfl ?_
    refine At_if_ne (t := 39) (pc' := 26) iX11_isAsNow_23 (by decide) rfl (fun c23 => ?_) (fun c23 => ?_)
    · have hv := hv.2 c23
      refine At_aload_n (pc' := 40) iX11_isAsNow_39 rfl rfl ?_
      refine At_getR (pc' := 43) iX11_isAsNow_40 rfl f_11_7 (kdK eT (kd_59 hL)) (by decide) (rfH eT (rf_59_0 hL)) ?_
      refine At_bipush (v := nI 10) (pc' := 45) iX11_isAsNow_43 rfl (by decide) ?_
      refine At_aload_n (pc' := 46) iX11_isAsNow_45 rfl rfl ?_
      refine At_getR (pc' := 49) iX11_isAsNow_46 rfl f_11_29 (kdK eT (kd_59 hL)) (by decide) (rfH eT (rf_59_17 hL)) ?_
      refine At_iload_n (pc' := 50) iX11_isAsNow_49 rfl rfl ?_
      obtain ⟨hn2, hv⟩ := hv
      refine At_iald (pc' := 51) iX11_isAsNow_50 rfl (kdH eT (kd_65 hL)) hn2 (show At (d + 0) MX11_isAsNow 51 [.ref 59, .int x1, .int x2, .int (gI h 60 (((nI 42) + x2).toNatClampNeg))] [.int (gI h 65 x2.toNatClampNeg), .int (nI 10), .ref 60] h Q from ?_)
      refine At_iadd (pc' := 52) iX11_isAsNow_51 rfl ?_
      obtain ⟨hn3, hv⟩ := hv
      refine At_iald (pc' := 53) iX11_isAsNow_52 rfl (kdH eT (kd_60 hL)) hn3 (show At (d + 0) MX11_isAsNow 53 [.ref 59, .int x1, .int x2, .int (gI h 60 (((nI 42) + x2).toNatClampNeg))] [.int (gI h 60 (((nI 10) + (gI h 65 x2.toNatClampNeg)).toNatClampNeg))] h Q from ?_)
      refine At_aload_n (pc' := 54) iX11_isAsNow_53 rfl rfl ?_
      refine At_getR (pc' := 57) iX11_isAsNow_54 rfl f_11_7 (kdK eT (kd_59 hL)) (by decide) (rfH eT (rf_59_0 hL)) ?_
      refine At_bipush (v := nI 10) (pc' := 59) iX11_isAsNow_57 rfl (by decide) ?_
      refine At_iload_n (pc' := 60) iX11_isAsNow_59 rfl rfl ?_
      refine At_iadd (pc' := 61) iX11_isAsNow_60 rfl ?_
      obtain ⟨hn4, hv⟩ := hv
      refine At_iald (pc' := 62) iX11_isAsNow_61 rfl (kdH eT (kd_60 hL)) hn4 (show At (d + 0) MX11_isAsNow 62 [.ref 59, .int x1, .int x2, .int (gI h 60 (((nI 42) + x2).toNatClampNeg))] [.int (gI h 60 (((nI 10) + (gI h 60 (((nI 42) + x2).toNatClampNeg))).toNatClampNeg)), .int (gI h 60 (((nI 10) + (gI h 65 x2.toNatClampNeg)).toNatClampNeg))] h Q from ?_)
      refine At_icmp_eq (t := 67) (pc' := 65) iX11_isAsNow_62 (by decide) rfl (fun c62 => ?_) (fun c62 => ?_)
      · have hv := hv.1 c62
        refine At_iinc (v := nI 1) (L' := [.ref 59, .int x1, .int (x2 + nI 1), .int (gI h 60 (((nI 42) + x2).toNatClampNeg))]) (pc' := 70) iX11_isAsNow_67 rfl rfl (Nat.le_of_ble_eq_true rfl) (by decide) rfl ?_
        refine At_goto (t := 2) iX11_isAsNow_70 (by decide) ?_
        exact hv _
      · have hv := hv.2 c62
        refine At_iconst (v := nI 0) (pc' := 66) iX11_isAsNow_65 rfl (by decide) ?_
        exact At_retF iX11_isAsNow_66 rfl hv
    · have hv := hv.1 c23
      refine At_aload_n (pc' := 27) iX11_isAsNow_26 rfl rfl ?_
      refine At_getR (pc' := 30) iX11_isAsNow_27 rfl f_11_29 (kdK eT (kd_59 hL)) (by decide) (rfH eT (rf_59_17 hL)) ?_
      refine At_iload_n (pc' := 31) iX11_isAsNow_30 rfl rfl ?_
      obtain ⟨hn5, hv⟩ := hv
      refine At_iald (pc' := 32) iX11_isAsNow_31 rfl (kdH eT (kd_65 hL)) hn5 (show At (d + 0) MX11_isAsNow 32 [.ref 59, .int x1, .int x2, .int (gI h 60 (((nI 42) + x2).toNatClampNeg))] [.int (gI h 65 x2.toNatClampNeg)] h Q from ?_)
      refine At_iload_n (pc' := 33) iX11_isAsNow_32 rfl rfl ?_
      refine At_icmp_eq (t := 67) (pc' := 36) iX11_isAsNow_33 (by decide) rfl (fun c33 => ?_) (fun c33 => ?_)
      · have hv := hv.1 c33
        refine At_iinc (v := nI 1) (L' := [.ref 59, .int x1, .int (x2 + nI 1), .int (gI h 60 (((nI 42) + x2).toNatClampNeg))]) (pc' := 70) iX11_isAsNow_67 rfl rfl (Nat.le_of_ble_eq_true rfl) (by decide) rfl ?_
        refine At_goto (t := 2) iX11_isAsNow_70 (by decide) ?_
        exact hv _
      · have hv := hv.2 c33
        refine At_goto (t := 65) iX11_isAsNow_36 (by decide) ?_
        refine At_iconst (v := nI 0) (pc' := 66) iX11_isAsNow_65 rfl (by decide) ?_
        exact At_retF iX11_isAsNow_66 rfl hv
-- X11_isFree (loop)
def L_X11_isFree_2 (d : Nat) (x1 : Int32) (x2 : Int32) (x3 : Int32) (h : Hp) (Q : Option Value → Hp → Prop) : Prop := At (d + 0) MX11_isFree 2 [.ref 59, .int x1, .int x2, .int x3] [] h Q
set_option maxRecDepth 20000 in
theorem b_X11_isFree {d : Nat} {T : HT} (hL : Lay T) {h : Hp} (eT : h.2.2 = T) (x1 : Int32) (x2 : Int32)  {Q : Option Value → Hp → Prop} (hv : L_X11_isFree_2 d x1 x2 (nI 0) h Q) : Call (d + 0) MX11_isFree [.ref 59, .int x1, .int x2] h Q := by
  show At (d + 0) MX11_isFree 0 [.ref 59, .int x1, .int x2, un] [] h Q
  refine At_iconst (v := nI 0) (pc' := 1) iX11_isFree_0 rfl (by decide) ?_
  refine At_istore_n (L' := [.ref 59, .int x1, .int x2, .int (nI 0)]) (pc' := 2) iX11_isFree_1 rfl (Nat.le_of_ble_eq_true rfl) rfl ?_
  exact hv
set_option maxRecDepth 20000 in
theorem b_X11_isFree_2 {d : Nat} {T : HT} (hL : Lay T) {h : Hp} (eT : h.2.2 = T) (x1 : Int32) (x2 : Int32) (x3 : Int32)  {Q : Option Value → Hp → Prop} (hv : ((x3 < (gI h 60 0)) → (((x3 = x1) → (L_X11_isFree_2 d x1 x2 (x3 + nI 1) h Q)) ∧ (¬ (x3 = x1) → (((((x2 >>> (x3 &&& 31)) &&& (nI 1)) = (nI 1)) → ((inB (((nI 60) + ((nI 16) * x3)) + x1) 4180 = true) ∧ (((0 < (gI h 60 ((((nI 60) + ((nI 16) * x3)) + x1).toNatClampNeg))) → (Q (some (.int (b2i false))) h)) ∧ (¬ (0 < (gI h 60 ((((nI 60) + ((nI 16) * x3)) + x1).toNatClampNeg))) → (L_X11_isFree_2 d x1 x2 (x3 + nI 1) h Q))))) ∧ (¬ (((x2 >>> (x3 &&& 31)) &&& (nI 1)) = (nI 1)) → (L_X11_isFree_2 d x1 x2 (x3 + nI 1) h Q)))))) ∧ (¬ (x3 < (gI h 60 0)) → (Q (some (.int (b2i true))) h))) : L_X11_isFree_2 d x1 x2 x3 h Q := by
  refine At_iload_n (pc' := 3) iX11_isFree_2 rfl rfl ?_
  refine At_aload_n (pc' := 4) iX11_isFree_3 rfl rfl ?_
  refine At_getR (pc' := 7) iX11_isFree_4 rfl f_11_7 (kdK eT (kd_59 hL)) (by decide) (rfH eT (rf_59_0 hL)) ?_
  refine At_iconst (v := nI 0) (pc' := 8) iX11_isFree_7 rfl (by decide) ?_
  refine At_iald (pc' := 9) iX11_isFree_8 rfl (kdH eT (kd_60 hL)) (by decide) (show At (d + 0) MX11_isFree 9 [.ref 59, .int x1, .int x2, .int x3] [.int (gI h 60 0), .int x3] h Q from ?_)
  refine At_icmp_ge (t := 51) (pc' := 12) iX11_isFree_9 (by decide) rfl (fun c9 => ?_) (fun c9 => ?_)
  · have hv := hv.2 c9
    refine At_iconst (v := nI 1) (pc' := 52) iX11_isFree_51 rfl (by decide) ?_
    exact At_retT iX11_isFree_52 rfl hv
  · have hv := hv.1 c9
    refine At_iload_n (pc' := 13) iX11_isFree_12 rfl rfl ?_
    refine At_iload_n (pc' := 14) iX11_isFree_13 rfl rfl ?_
    refine At_icmp_eq (t := 45) (pc' := 17) iX11_isFree_14 (by decide) rfl (fun c14 => ?_) (fun c14 => ?_)
    · have hv := hv.1 c14
      refine At_iinc (v := nI 1) (L' := [.ref 59, .int x1, .int x2, .int (x3 + nI 1)]) (pc' := 48) iX11_isFree_45 rfl rfl (Nat.le_of_ble_eq_true rfl) (by decide) rfl ?_
      refine At_goto (t := 2) iX11_isFree_48 (by decide) ?_
      exact hv
    · have hv := hv.2 c14
      refine At_iload_n (pc' := 18) iX11_isFree_17 rfl rfl ?_
      refine At_iload_n (pc' := 19) iX11_isFree_18 rfl rfl ?_
      refine At_ishr (pc' := 20) iX11_isFree_19 rfl ?_
      refine At_iconst (v := nI 1) (pc' := 21) iX11_isFree_20 rfl (by decide) ?_
      refine At_iand (pc' := 22) iX11_isFree_21 rfl ?_
      refine At_iconst (v := nI 1) (pc' := 23) iX11_isFree_22 rfl (by decide) ?_
      refine At_icmp_ne (t := 45) (pc' := 26) iX11_isFree_23 (by decide) rfl (fun c23 => ?_) (fun c23 => ?_)
      · have hv := hv.2 c23
        refine At_iinc (v := nI 1) (L' := [.ref 59, .int x1, .int x2, .int (x3 + nI 1)]) (pc' := 48) iX11_isFree_45 rfl rfl (Nat.le_of_ble_eq_true rfl) (by decide) rfl ?_
        refine At_goto (t := 2) iX11_isFree_48 (by decide) ?_
        exact hv
      · have hv := hv.1 c23
        refine At_aload_n (pc' := 27) iX11_isFree_26 rfl rfl ?_
        refine At_getR (pc' := 30) iX11_isFree_27 rfl f_11_7 (kdK eT (kd_59 hL)) (by decide) (rfH eT (rf_59_0 hL)) ?_
        refine At_bipush (v := nI 60) (pc' := 32) iX11_isFree_30 rfl (by decide) ?_
        refine At_bipush (v := nI 16) (pc' := 34) iX11_isFree_32 rfl (by decide) ?_
        refine At_iload_n (pc' := 35) iX11_isFree_34 rfl rfl ?_
        refine At_imul (pc' := 36) iX11_isFree_35 rfl ?_
        refine At_iadd (pc' := 37) iX11_isFree_36 rfl ?_
        refine At_iload_n (pc' := 38) iX11_isFree_37 rfl rfl ?_
        refine At_iadd (pc' := 39) iX11_isFree_38 rfl ?_
        obtain ⟨hn1, hv⟩ := hv
        refine At_iald (pc' := 40) iX11_isFree_39 rfl (kdH eT (kd_60 hL)) hn1 (show At (d + 0) MX11_isFree 40 [.ref 59, .int x1, .int x2, .int x3] [.int (gI h 60 ((((nI 60) + ((nI 16) * x3)) + x1).toNatClampNeg))] h Q from ?_)
        refine At_if_le (t := 45) (pc' := 43) iX11_isFree_40 (by decide) rfl (fun c40 => ?_) (fun c40 => ?_)
        · have hv := hv.2 c40
          refine At_iinc (v := nI 1) (L' := [.ref 59, .int x1, .int x2, .int (x3 + nI 1)]) (pc' := 48) iX11_isFree_45 rfl rfl (Nat.le_of_ble_eq_true rfl) (by decide) rfl ?_
          refine At_goto (t := 2) iX11_isFree_48 (by decide) ?_
          exact hv
        · have hv := hv.1 c40
          refine At_iconst (v := nI 0) (pc' := 44) iX11_isFree_43 rfl (by decide) ?_
          exact At_retF iX11_isFree_44 rfl hv
-- X11_isWanted (loop)
def L_X11_isWanted_2 (d : Nat) (x1 : Int32) (h : Hp) (Q : Option Value → Hp → Prop) : Prop := At (d + 0) MX11_isWanted 2 [.ref 59, .int x1] [] h Q
set_option maxRecDepth 20000 in
theorem b_X11_isWanted {d : Nat} {T : HT} (hL : Lay T) {h : Hp} (eT : h.2.2 = T)   {Q : Option Value → Hp → Prop} (hv : L_X11_isWanted_2 d (nI 0) h Q) : Call (d + 0) MX11_isWanted [.ref 59] h Q := by
  show At (d + 0) MX11_isWanted 0 [.ref 59, un] [] h Q
  refine At_iconst (v := nI 0) (pc' := 1) iX11_isWanted_0 rfl (by decide) ?_
  refine At_istore_n (L' := [.ref 59, .int (nI 0)]) (pc' := 2) iX11_isWanted_1 rfl (Nat.le_of_ble_eq_true rfl) rfl ?_
  exact hv
set_option maxRecDepth 20000 in
theorem b_X11_isWanted_2 {d : Nat} {T : HT} (hL : Lay T) {h : Hp} (eT : h.2.2 = T) (x1 : Int32)  {Q : Option Value → Hp → Prop} (hv : ((x1 < (gI h 60 0)) → ((inB x1 16 = true) ∧ ((inB ((nI 10) + (gI h 65 x1.toNatClampNeg)) 4180 = true) ∧ ((inB ((nI 920) + x1) 4180 = true) ∧ ((((gI h 60 (((nI 10) + (gI h 65 x1.toNatClampNeg)).toNatClampNeg)) = (gI h 60 (((nI 920) + x1).toNatClampNeg))) → (L_X11_isWanted_2 d (x1 + nI 1) h Q)) ∧ (¬ ((gI h 60 (((nI 10) + (gI h 65 x1.toNatClampNeg)).toNatClampNeg)) = (gI h 60 (((nI 920) + x1).toNatClampNeg))) → (Q (some (.int (b2i false))) h))))))) ∧ (¬ (x1 < (gI h 60 0)) → (Q (some (.int (b2i true))) h))) : L_X11_isWanted_2 d x1 h Q := by
  refine At_iload_n (pc' := 3) iX11_isWanted_2 rfl rfl ?_
  refine At_aload_n (pc' := 4) iX11_isWanted_3 rfl rfl ?_
  refine At_getR (pc' := 7) iX11_isWanted_4 rfl f_11_7 (kdK eT (kd_59 hL)) (by decide) (rfH eT (rf_59_0 hL)) ?_
  refine At_iconst (v := nI 0) (pc' := 8) iX11_isWanted_7 rfl (by decide) ?_
  refine At_iald (pc' := 9) iX11_isWanted_8 rfl (kdH eT (kd_60 hL)) (by decide) (show At (d + 0) MX11_isWanted 9 [.ref 59, .int x1] [.int (gI h 60 0), .int x1] h Q from ?_)
  refine At_icmp_ge (t := 47) (pc' := 12) iX11_isWanted_9 (by decide) rfl (fun c9 => ?_) (fun c9 => ?_)
  · have hv := hv.2 c9
    refine At_iconst (v := nI 1) (pc' := 48) iX11_isWanted_47 rfl (by decide) ?_
    exact At_retT iX11_isWanted_48 rfl hv
  · have hv := hv.1 c9
    refine At_aload_n (pc' := 13) iX11_isWanted_12 rfl rfl ?_
    refine At_getR (pc' := 16) iX11_isWanted_13 rfl f_11_7 (kdK eT (kd_59 hL)) (by decide) (rfH eT (rf_59_0 hL)) ?_
    refine At_bipush (v := nI 10) (pc' := 18) iX11_isWanted_16 rfl (by decide) ?_
    refine At_aload_n (pc' := 19) iX11_isWanted_18 rfl rfl ?_
    refine At_getR (pc' := 22) iX11_isWanted_19 rfl f_11_29 (kdK eT (kd_59 hL)) (by decide) (rfH eT (rf_59_17 hL)) ?_
    refine At_iload_n (pc' := 23) iX11_isWanted_22 rfl rfl ?_
    obtain ⟨hn1, hv⟩ := hv
    refine At_iald (pc' := 24) iX11_isWanted_23 rfl (kdH eT (kd_65 hL)) hn1 (show At (d + 0) MX11_isWanted 24 [.ref 59, .int x1] [.int (gI h 65 x1.toNatClampNeg), .int (nI 10), .ref 60] h Q from ?_)
    refine At_iadd (pc' := 25) iX11_isWanted_24 rfl ?_
    obtain ⟨hn2, hv⟩ := hv
    refine At_iald (pc' := 26) iX11_isWanted_25 rfl (kdH eT (kd_60 hL)) hn2 (show At (d + 0) MX11_isWanted 26 [.ref 59, .int x1] [.int (gI h 60 (((nI 10) + (gI h 65 x1.toNatClampNeg)).toNatClampNeg))] h Q from ?_)
    refine At_aload_n (pc' := 27) iX11_isWanted_26 rfl rfl ?_
    refine At_getR (pc' := 30) iX11_isWanted_27 rfl f_11_7 (kdK eT (kd_59 hL)) (by decide) (rfH eT (rf_59_0 hL)) ?_
    refine At_sipush (v := nI 920) (pc' := 33) iX11_isWanted_30 rfl (by decide) ?_
    refine At_iload_n (pc' := 34) iX11_isWanted_33 rfl rfl ?_
    refine At_iadd (pc' := 35) iX11_isWanted_34 rfl ?_
    obtain ⟨hn3, hv⟩ := hv
    refine At_iald (pc' := 36) iX11_isWanted_35 rfl (kdH eT (kd_60 hL)) hn3 (show At (d + 0) MX11_isWanted 36 [.ref 59, .int x1] [.int (gI h 60 (((nI 920) + x1).toNatClampNeg)), .int (gI h 60 (((nI 10) + (gI h 65 x1.toNatClampNeg)).toNatClampNeg))] h Q from ?_)
    refine At_icmp_eq (t := 41) (pc' := 39) iX11_isWanted_36 (by decide) rfl (fun c36 => ?_) (fun c36 => ?_)
    · have hv := hv.1 c36
      refine At_iinc (v := nI 1) (L' := [.ref 59, .int (x1 + nI 1)]) (pc' := 44) iX11_isWanted_41 rfl rfl (Nat.le_of_ble_eq_true rfl) (by decide) rfl ?_
      refine At_goto (t := 2) iX11_isWanted_44 (by decide) ?_
      exact hv
    · have hv := hv.2 c36
      refine At_iconst (v := nI 0) (pc' := 40) iX11_isWanted_39 rfl (by decide) ?_
      exact At_retF iX11_isWanted_40 rfl hv
-- X11_keeps (loop)
def L_X11_keeps_52 (d : Nat) (x1 : Int32) (h : Hp) (Q : Option Value → Hp → Prop) : Prop := At (d + 0) MX11_keeps 52 [.ref 59, .int x1] [] h Q
def L_X11_keeps_11 (d : Nat) (x1 : Int32) (h : Hp) (Q : Option Value → Hp → Prop) : Prop := At (d + 0) MX11_keeps 11 [.ref 59, .int x1] [] h Q
set_option maxRecDepth 20000 in
theorem b_X11_keeps {d : Nat} {T : HT} (hL : Lay T) {h : Hp} (eT : h.2.2 = T)   {Q : Option Value → Hp → Prop} (hv : (((gI h 59 3) = (nI 6)) → (L_X11_keeps_11 d (nI 0) h Q)) ∧ (¬ ((gI h 59 3) = (nI 6)) → (L_X11_keeps_52 d (nI 0) h Q))) : Call (d + 0) MX11_keeps [.ref 59] h Q := by
  show At (d + 0) MX11_keeps 0 [.ref 59, un] [] h Q
  refine At_aload_n (pc' := 1) iX11_keeps_0 rfl rfl ?_
  refine At_getI (pc' := 4) iX11_keeps_1 rfl f_11_69 (kdK eT (kd_59 hL)) (by decide) ?_
  refine At_bipush (v := nI 6) (pc' := 6) iX11_keeps_4 rfl (by decide) ?_
  refine At_icmp_ne (t := 50) (pc' := 9) iX11_keeps_6 (by decide) rfl (fun c6 => ?_) (fun c6 => ?_)
  · have hv := hv.2 c6
    refine At_iconst (v := nI 0) (pc' := 51) iX11_keeps_50 rfl (by decide) ?_
    refine At_istore_n (L' := [.ref 59, .int (nI 0)]) (pc' := 52) iX11_keeps_51 rfl (Nat.le_of_ble_eq_true rfl) rfl ?_
    exact hv
  · have hv := hv.1 c6
    refine At_iconst (v := nI 0) (pc' := 10) iX11_keeps_9 rfl (by decide) ?_
    refine At_istore_n (L' := [.ref 59, .int (nI 0)]) (pc' := 11) iX11_keeps_10 rfl (Nat.le_of_ble_eq_true rfl) rfl ?_
    exact hv
set_option maxRecDepth 20000 in
theorem b_X11_keeps_52 {d : Nat} {T : HT} (hL : Lay T) {h : Hp} (eT : h.2.2 = T) (x1 : Int32)  {Q : Option Value → Hp → Prop} (hv : ((x1 < (nI 316)) → ((inB x1 4180 = true) ∧ ((inB (((nI 316) * (gI h 59 3)) + x1) 1896 = true) ∧ (L_X11_keeps_52 d (x1 + nI 1) (sI h 62 ((((nI 316) * (gI h 59 3)) + x1).toNatClampNeg) (gI h 60 x1.toNatClampNeg)) Q)))) ∧ (¬ (x1 < (nI 316)) → (Q none (sI h 59 3 ((gI h 59 3) + (nI 1)))))) : L_X11_keeps_52 d x1 h Q := by
  refine At_iload_n (pc' := 53) iX11_keeps_52 rfl rfl ?_
  refine At_sipush (v := nI 316) (pc' := 56) iX11_keeps_53 rfl (by decide) ?_
  refine At_icmp_ge (t := 86) (pc' := 59) iX11_keeps_56 (by decide) rfl (fun c56 => ?_) (fun c56 => ?_)
  · have hv := hv.2 c56
    refine At_aload_n (pc' := 87) iX11_keeps_86 rfl rfl ?_
    refine At_dup (pc' := 88) iX11_keeps_87 rfl rfl ?_
    refine At_getI (pc' := 91) iX11_keeps_88 rfl f_11_69 (kdK eT (kd_59 hL)) (by decide) ?_
    refine At_iconst (v := nI 1) (pc' := 92) iX11_keeps_91 rfl (by decide) ?_
    refine At_iadd (pc' := 93) iX11_keeps_92 rfl ?_
    refine At_putI (pc' := 96) iX11_keeps_93 rfl f_11_69 (kdK eT (kd_59 hL)) (Or.inl rfl) (by decide) ?_
    exact At_retV iX11_keeps_96 rfl hv
  · have hv := hv.1 c56
    refine At_aload_n (pc' := 60) iX11_keeps_59 rfl rfl ?_
    refine At_getR (pc' := 63) iX11_keeps_60 rfl f_11_16 (kdK eT (kd_59 hL)) (by decide) (rfH eT (rf_59_2 hL)) ?_
    refine At_sipush (v := nI 316) (pc' := 66) iX11_keeps_63 rfl (by decide) ?_
    refine At_aload_n (pc' := 67) iX11_keeps_66 rfl rfl ?_
    refine At_getI (pc' := 70) iX11_keeps_67 rfl f_11_69 (kdK eT (kd_59 hL)) (by decide) ?_
    refine At_imul (pc' := 71) iX11_keeps_70 rfl ?_
    refine At_iload_n (pc' := 72) iX11_keeps_71 rfl rfl ?_
    refine At_iadd (pc' := 73) iX11_keeps_72 rfl ?_
    refine At_aload_n (pc' := 74) iX11_keeps_73 rfl rfl ?_
    refine At_getR (pc' := 77) iX11_keeps_74 rfl f_11_7 (kdK eT (kd_59 hL)) (by decide) (rfH eT (rf_59_0 hL)) ?_
    refine At_iload_n (pc' := 78) iX11_keeps_77 rfl rfl ?_
    obtain ⟨hn1, hv⟩ := hv
    refine At_iald (pc' := 79) iX11_keeps_78 rfl (kdH eT (kd_60 hL)) hn1 (show At (d + 0) MX11_keeps 79 [.ref 59, .int x1] [.int (gI h 60 x1.toNatClampNeg), .int (((nI 316) * (gI h 59 3)) + x1), .ref 62] h Q from ?_)
    obtain ⟨hn2, hv⟩ := hv
    refine At_iast (pc' := 80) iX11_keeps_79 rfl (kdH eT (kd_62 hL)) hn2 (show At (d + 0) MX11_keeps 80 [.ref 59, .int x1] [] (sI h 62 ((((nI 316) * (gI h 59 3)) + x1).toNatClampNeg) (gI h 60 x1.toNatClampNeg)) Q from ?_)
    refine At_iinc (v := nI 1) (L' := [.ref 59, .int (x1 + nI 1)]) (pc' := 83) iX11_keeps_80 rfl rfl (Nat.le_of_ble_eq_true rfl) (by decide) rfl ?_
    refine At_goto (t := 52) iX11_keeps_83 (by decide) ?_
    exact hv
set_option maxRecDepth 20000 in
theorem b_X11_keeps_11 {d : Nat} {T : HT} (hL : Lay T) {h : Hp} (eT : h.2.2 = T) (x1 : Int32)  {Q : Option Value → Hp → Prop} (hv : ((x1 < (nI 1580)) → ((inB (x1 + (nI 316)) 1896 = true) ∧ ((inB x1 1896 = true) ∧ (L_X11_keeps_11 d (x1 + nI 1) (sI h 62 x1.toNatClampNeg (gI h 62 ((x1 + (nI 316)).toNatClampNeg))) Q)))) ∧ (¬ (x1 < (nI 1580)) → (L_X11_keeps_52 d (nI 0) (sI h 59 3 ((gI h 59 3) - (nI 1))) Q))) : L_X11_keeps_11 d x1 h Q := by
  refine At_iload_n (pc' := 12) iX11_keeps_11 rfl rfl ?_
  refine At_sipush (v := nI 1580) (pc' := 15) iX11_keeps_12 rfl (by decide) ?_
  refine At_icmp_ge (t := 40) (pc' := 18) iX11_keeps_15 (by decide) rfl (fun c15 => ?_) (fun c15 => ?_)
  · have hv := hv.2 c15
    refine At_aload_n (pc' := 41) iX11_keeps_40 rfl rfl ?_
    refine At_dup (pc' := 42) iX11_keeps_41 rfl rfl ?_
    refine At_getI (pc' := 45) iX11_keeps_42 rfl f_11_69 (kdK eT (kd_59 hL)) (by decide) ?_
    refine At_iconst (v := nI 1) (pc' := 46) iX11_keeps_45 rfl (by decide) ?_
    refine At_isub (pc' := 47) iX11_keeps_46 rfl ?_
    refine At_putI (pc' := 50) iX11_keeps_47 rfl f_11_69 (kdK eT (kd_59 hL)) (Or.inl rfl) (by decide) ?_
    refine At_iconst (v := nI 0) (pc' := 51) iX11_keeps_50 rfl (by decide) ?_
    refine At_istore_n (L' := [.ref 59, .int (nI 0)]) (pc' := 52) iX11_keeps_51 rfl (Nat.le_of_ble_eq_true rfl) rfl ?_
    exact hv
  · have hv := hv.1 c15
    refine At_aload_n (pc' := 19) iX11_keeps_18 rfl rfl ?_
    refine At_getR (pc' := 22) iX11_keeps_19 rfl f_11_16 (kdK eT (kd_59 hL)) (by decide) (rfH eT (rf_59_2 hL)) ?_
    refine At_iload_n (pc' := 23) iX11_keeps_22 rfl rfl ?_
    refine At_aload_n (pc' := 24) iX11_keeps_23 rfl rfl ?_
    refine At_getR (pc' := 27) iX11_keeps_24 rfl f_11_16 (kdK eT (kd_59 hL)) (by decide) (rfH eT (rf_59_2 hL)) ?_
    refine At_iload_n (pc' := 28) iX11_keeps_27 rfl rfl ?_
    refine At_sipush (v := nI 316) (pc' := 31) iX11_keeps_28 rfl (by decide) ?_
    refine At_iadd (pc' := 32) iX11_keeps_31 rfl ?_
    obtain ⟨hn1, hv⟩ := hv
    refine At_iald (pc' := 33) iX11_keeps_32 rfl (kdH eT (kd_62 hL)) hn1 (show At (d + 0) MX11_keeps 33 [.ref 59, .int x1] [.int (gI h 62 ((x1 + (nI 316)).toNatClampNeg)), .int x1, .ref 62] h Q from ?_)
    obtain ⟨hn2, hv⟩ := hv
    refine At_iast (pc' := 34) iX11_keeps_33 rfl (kdH eT (kd_62 hL)) hn2 (show At (d + 0) MX11_keeps 34 [.ref 59, .int x1] [] (sI h 62 x1.toNatClampNeg (gI h 62 ((x1 + (nI 316)).toNatClampNeg))) Q from ?_)
    refine At_iinc (v := nI 1) (L' := [.ref 59, .int (x1 + nI 1)]) (pc' := 37) iX11_keeps_34 rfl rfl (Nat.le_of_ble_eq_true rfl) (by decide) rfl ?_
    refine At_goto (t := 11) iX11_keeps_37 (by decide) ?_
    exact hv
-- X11_liftedOf (loop)
def L_X11_liftedOf_17 (d : Nat) (x2 : Int32) (x3 : Int32) (x4 : Int32) (x5 : Int32) (x6 : Int32) (h : Hp) (Q : Option Value → Hp → Prop) : Prop := ∀ v1 v7 v8 v9 : Value, At (d + 0) MX11_liftedOf 17 [.ref 59, v1, .int x2, .int x3, .int x4, .int x5, .int x6, v7, v8, v9] [] h Q
def L_X11_liftedOf_70 (d : Nat) (x3 : Int32) (x4 : Int32) (x6 : Int32) (x7 : Int32) (x8 : Int32) (h : Hp) (Q : Option Value → Hp → Prop) : Prop := ∀ v1 v2 v5 v9 : Value, At (d + 0) MX11_liftedOf 70 [.ref 59, v1, v2, .int x3, .int x4, v5, .int x6, .int x7, .int x8, v9] [] h Q
def L_X11_liftedOf_117 (d : Nat) (x4 : Int32) (x8 : Int32) (x9 : Int32) (h : Hp) (Q : Option Value → Hp → Prop) : Prop := ∀ v1 v2 v3 v5 v6 v7 : Value, At (d + 0) MX11_liftedOf 117 [.ref 59, v1, v2, v3, .int x4, v5, v6, v7, .int x8, .int x9] [] h Q
set_option maxRecDepth 20000 in
theorem b_X11_liftedOf {d : Nat} {T : HT} (hL : Lay T) {h : Hp} (eT : h.2.2 = T) (x1 : Int32) (x2 : Int32) (x3 : Int32)  {Q : Option Value → Hp → Prop} (hv : L_X11_liftedOf_17 d x2 x3 (gI h 60 0) x1 ((gI h 60 0) - (nI 1)) h Q) : Call (d + 0) MX11_liftedOf [.ref 59, .int x1, .int x2, .int x3] h Q := by
  show At (d + 0) MX11_liftedOf 0 [.ref 59, .int x1, .int x2, .int x3, un, un, un, un, un, un] [] h Q
  refine At_aload_n (pc' := 1) iX11_liftedOf_0 rfl rfl ?_
  refine At_getR (pc' := 4) iX11_liftedOf_1 rfl f_11_7 (kdK eT (kd_59 hL)) (by decide) (rfH eT (rf_59_0 hL)) ?_
  refine At_iconst (v := nI 0) (pc' := 5) iX11_liftedOf_4 rfl (by decide) ?_
  refine At_iald (pc' := 6) iX11_liftedOf_5 rfl (kdH eT (kd_60 hL)) (by decide) (show At (d + 0) MX11_liftedOf 6 [.ref 59, .int x1, .int x2, .int x3, un, un, un, un, un, un] [.int (gI h 60 0)] h Q from ?_)
  refine At_istore (L' := [.ref 59, .int x1, .int x2, .int x3, .int (gI h 60 0), un, un, un, un, un]) (pc' := 8) iX11_liftedOf_6 rfl (Nat.le_of_ble_eq_true rfl) rfl ?_
  refine At_iload_n (pc' := 9) iX11_liftedOf_8 rfl rfl ?_
  refine At_istore (L' := [.ref 59, .int x1, .int x2, .int x3, .int (gI h 60 0), .int x1, un, un, un, un]) (pc' := 11) iX11_liftedOf_9 rfl (Nat.le_of_ble_eq_true rfl) rfl ?_
  refine At_iload (pc' := 13) iX11_liftedOf_11 rfl rfl ?_
  refine At_iconst (v := nI 1) (pc' := 14) iX11_liftedOf_13 rfl (by decide) ?_
  refine At_isub (pc' := 15) iX11_liftedOf_14 rfl ?_
  refine At_istore (L' := [.ref 59, .int x1, .int x2, .int x3, .int (gI h 60 0), .int x1, .int ((gI h 60 0) - (nI 1)), un, un, un]) (pc' := 17) iX11_liftedOf_15 rfl (Nat.le_of_ble_eq_true rfl) rfl ?_
  exact hv _ _ _ _
set_option maxRecDepth 20000 in
theorem b_X11_liftedOf_17 {d : Nat} {T : HT} (hL : Lay T) {h : Hp} (eT : h.2.2 = T) (x2 : Int32) (x3 : Int32) (x4 : Int32) (x5 : Int32) (x6 : Int32)  {Q : Option Value → Hp → Prop} (hv : ((x6 < 0) → ((inB x2 7 = true) ∧ (((x2 < x3) → (L_X11_liftedOf_70 d x3 x4 (gI h 70 x2.toNatClampNeg) (nI 1) x2 h Q)) ∧ (¬ (x2 < x3) → (L_X11_liftedOf_70 d x3 x4 (gI h 70 x2.toNatClampNeg) (-1) x2 h Q))))) ∧ (¬ (x6 < 0) → ((inB x6 7 = true) ∧ (L_X11_liftedOf_17 d x2 x3 x4 (x5 / (nI 10)) (x6 + (-1)) (sI h 70 x6.toNatClampNeg (irem x5 (nI 10))) Q)))) : L_X11_liftedOf_17 d x2 x3 x4 x5 x6 h Q := by
  intro v1 v7 v8 v9
  refine At_iload (pc' := 19) iX11_liftedOf_17 rfl rfl ?_
  refine At_if_lt (t := 47) (pc' := 22) iX11_liftedOf_19 (by decide) rfl (fun c19 => ?_) (fun c19 => ?_)
  · have hv := hv.1 c19
    refine At_aload_n (pc' := 48) iX11_liftedOf_47 rfl rfl ?_
    refine At_getR (pc' := 51) iX11_liftedOf_48 rfl f_11_44 (kdK eT (kd_59 hL)) (by decide) (rfH eT (rf_59_22 hL)) ?_
    refine At_iload_n (pc' := 52) iX11_liftedOf_51 rfl rfl ?_
    obtain ⟨hn1, hv⟩ := hv
    refine At_iald (pc' := 53) iX11_liftedOf_52 rfl (kdH eT (kd_70 hL)) hn1 (show At (d + 0) MX11_liftedOf 53 [.ref 59, v1, .int x2, .int x3, .int x4, .int x5, .int x6, v7, v8, v9] [.int (gI h 70 x2.toNatClampNeg)] h Q from ?_)
    refine At_istore (L' := [.ref 59, v1, .int x2, .int x3, .int x4, .int x5, .int (gI h 70 x2.toNatClampNeg), v7, v8, v9]) (pc' := 55) iX11_liftedOf_53 rfl (Nat.le_of_ble_eq_true rfl) rfl ?_
    refine At_iload_n (pc' := 56) iX11_liftedOf_55 rfl rfl ?_
    refine At_iload_n (pc' := 57) iX11_liftedOf_56 rfl rfl ?_
    refine At_icmp_ge (t := 64) (pc' := 60) iX11_liftedOf_57 (by decide) rfl (fun c57 => ?_) (fun c57 => ?_)
    · have hv := hv.2 c57
      refine At_iconst (v := (-1)) (pc' := 65) iX11_liftedOf_64 rfl (by decide) ?_
      refine At_istore (L' := [.ref 59, v1, .int x2, .int x3, .int x4, .int x5, .int (gI h 70 x2.toNatClampNeg), .int (-1), v8, v9]) (pc' := 67) iX11_liftedOf_65 rfl (Nat.le_of_ble_eq_true rfl) rfl ?_
      refine At_iload_n (pc' := 68) iX11_liftedOf_67 rfl rfl ?_
      refine At_istore (L' := [.ref 59, v1, .int x2, .int x3, .int x4, .int x5, .int (gI h 70 x2.toNatClampNeg), .int (-1), .int x2, v9]) (pc' := 70) iX11_liftedOf_68 rfl (Nat.le_of_ble_eq_true rfl) rfl ?_
      exact hv _ _ _ _
    · have hv := hv.1 c57
      refine At_iconst (v := nI 1) (pc' := 61) iX11_liftedOf_60 rfl (by decide) ?_
      refine At_goto (t := 65) iX11_liftedOf_61 (by decide) ?_
      refine At_istore (L' := [.ref 59, v1, .int x2, .int x3, .int x4, .int x5, .int (gI h 70 x2.toNatClampNeg), .int (nI 1), v8, v9]) (pc' := 67) iX11_liftedOf_65 rfl (Nat.le_of_ble_eq_true rfl) rfl ?_
      refine At_iload_n (pc' := 68) iX11_liftedOf_67 rfl rfl ?_
      refine At_istore (L' := [.ref 59, v1, .int x2, .int x3, .int x4, .int x5, .int (gI h 70 x2.toNatClampNeg), .int (nI 1), .int x2, v9]) (pc' := 70) iX11_liftedOf_68 rfl (Nat.le_of_ble_eq_true rfl) rfl ?_
      exact hv _ _ _ _
  · have hv := hv.2 c19
    refine At_aload_n (pc' := 23) iX11_liftedOf_22 rfl rfl ?_
    refine At_getR (pc' := 26) iX11_liftedOf_23 rfl f_11_44 (kdK eT (kd_59 hL)) (by decide) (rfH eT (rf_59_22 hL)) ?_
    refine At_iload (pc' := 28) iX11_liftedOf_26 rfl rfl ?_
    refine At_iload (pc' := 30) iX11_liftedOf_28 rfl rfl ?_
    refine At_bipush (v := nI 10) (pc' := 32) iX11_liftedOf_30 rfl (by decide) ?_
    refine At_irem (pc' := 33) iX11_liftedOf_32 rfl (by decide) ?_
    obtain ⟨hn2, hv⟩ := hv
    refine At_iast (pc' := 34) iX11_liftedOf_33 rfl (kdH eT (kd_70 hL)) hn2 (show At (d + 0) MX11_liftedOf 34 [.ref 59, v1, .int x2, .int x3, .int x4, .int x5, .int x6, v7, v8, v9] [] (sI h 70 x6.toNatClampNeg (irem x5 (nI 10))) Q from ?_)
    refine At_iload (pc' := 36) iX11_liftedOf_34 rfl rfl ?_
    refine At_bipush (v := nI 10) (pc' := 38) iX11_liftedOf_36 rfl (by decide) ?_
    refine At_idiv (pc' := 39) iX11_liftedOf_38 rfl (by decide) ?_
    refine At_istore (L' := [.ref 59, v1, .int x2, .int x3, .int x4, .int (x5 / (nI 10)), .int x6, v7, v8, v9]) (pc' := 41) iX11_liftedOf_39 rfl (Nat.le_of_ble_eq_true rfl) rfl ?_
    refine At_iinc (v := (-1)) (L' := [.ref 59, v1, .int x2, .int x3, .int x4, .int (x5 / (nI 10)), .int (x6 + (-1)), v7, v8, v9]) (pc' := 44) iX11_liftedOf_41 rfl rfl (Nat.le_of_ble_eq_true rfl) (by decide) rfl ?_
    refine At_goto (t := 17) iX11_liftedOf_44 (by decide) ?_
    exact hv _ _ _ _
set_option maxRecDepth 20000 in
theorem b_X11_liftedOf_70 {d : Nat} {T : HT} (hL : Lay T) {h : Hp} (eT : h.2.2 = T) (x3 : Int32) (x4 : Int32) (x6 : Int32) (x7 : Int32) (x8 : Int32)  {Q : Option Value → Hp → Prop} (hv : ((x8 = x3) → ((inB x3 7 = true) ∧ (L_X11_liftedOf_117 d x4 (nI 0) (nI 0) (sI h 70 x3.toNatClampNeg x6) Q))) ∧ (¬ (x8 = x3) → ((inB (x8 + x7) 7 = true) ∧ ((inB x8 7 = true) ∧ (L_X11_liftedOf_70 d x3 x4 x6 x7 (x8 + x7) (sI h 70 x8.toNatClampNeg (gI h 70 ((x8 + x7).toNatClampNeg))) Q))))) : L_X11_liftedOf_70 d x3 x4 x6 x7 x8 h Q := by
  intro v1 v2 v5 v9
  refine At_iload (pc' := 72) iX11_liftedOf_70 rfl rfl ?_
  refine At_iload_n (pc' := 73) iX11_liftedOf_72 rfl rfl ?_
  refine At_icmp_eq (t := 103) (pc' := 76) iX11_liftedOf_73 (by decide) rfl (fun c73 => ?_) (fun c73 => ?_)
  · have hv := hv.1 c73
    refine At_aload_n (pc' := 104) iX11_liftedOf_103 rfl rfl ?_
    refine At_getR (pc' := 107) iX11_liftedOf_104 rfl f_11_44 (kdK eT (kd_59 hL)) (by decide) (rfH eT (rf_59_22 hL)) ?_
    refine At_iload_n (pc' := 108) iX11_liftedOf_107 rfl rfl ?_
    refine At_iload (pc' := 110) iX11_liftedOf_108 rfl rfl ?_
    obtain ⟨hn1, hv⟩ := hv
    refine At_iast (pc' := 111) iX11_liftedOf_110 rfl (kdH eT (kd_70 hL)) hn1 (show At (d + 0) MX11_liftedOf 111 [.ref 59, v1, v2, .int x3, .int x4, v5, .int x6, .int x7, .int x8, v9] [] (sI h 70 x3.toNatClampNeg x6) Q from ?_)
    refine At_iconst (v := nI 0) (pc' := 112) iX11_liftedOf_111 rfl (by decide) ?_
    refine At_istore (L' := [.ref 59, v1, v2, .int x3, .int x4, v5, .int x6, .int x7, .int (nI 0), v9]) (pc' := 114) iX11_liftedOf_112 rfl (Nat.le_of_ble_eq_true rfl) rfl ?_
    refine At_iconst (v := nI 0) (pc' := 115) iX11_liftedOf_114 rfl (by decide) ?_
    refine At_istore (L' := [.ref 59, v1, v2, .int x3, .int x4, v5, .int x6, .int x7, .int (nI 0), .int (nI 0)]) (pc' := 117) iX11_liftedOf_115 rfl (Nat.le_of_ble_eq_true rfl) rfl ?_
    exact hv _ _ _ _ _ _
  · have hv := hv.2 c73
    refine At_aload_n (pc' := 77) iX11_liftedOf_76 rfl rfl ?_
    refine At_getR (pc' := 80) iX11_liftedOf_77 rfl f_11_44 (kdK eT (kd_59 hL)) (by decide) (rfH eT (rf_59_22 hL)) ?_
    refine At_iload (pc' := 82) iX11_liftedOf_80 rfl rfl ?_
    refine At_aload_n (pc' := 83) iX11_liftedOf_82 rfl rfl ?_
    refine At_getR (pc' := 86) iX11_liftedOf_83 rfl f_11_44 (kdK eT (kd_59 hL)) (by decide) (rfH eT (rf_59_22 hL)) ?_
    refine At_iload (pc' := 88) iX11_liftedOf_86 rfl rfl ?_
    refine At_iload (pc' := 90) iX11_liftedOf_88 rfl rfl ?_
    refine At_iadd (pc' := 91) iX11_liftedOf_90 rfl ?_
    obtain ⟨hn2, hv⟩ := hv
    refine At_iald (pc' := 92) iX11_liftedOf_91 rfl (kdH eT (kd_70 hL)) hn2 (show At (d + 0) MX11_liftedOf 92 [.ref 59, v1, v2, .int x3, .int x4, v5, .int x6, .int x7, .int x8, v9] [.int (gI h 70 ((x8 + x7).toNatClampNeg)), .int x8, .ref 70] h Q from ?_)
    obtain ⟨hn3, hv⟩ := hv
    refine At_iast (pc' := 93) iX11_liftedOf_92 rfl (kdH eT (kd_70 hL)) hn3 (show At (d + 0) MX11_liftedOf 93 [.ref 59, v1, v2, .int x3, .int x4, v5, .int x6, .int x7, .int x8, v9] [] (sI h 70 x8.toNatClampNeg (gI h 70 ((x8 + x7).toNatClampNeg))) Q from ?_)
    refine At_iload (pc' := 95) iX11_liftedOf_93 rfl rfl ?_
    refine At_iload (pc' := 97) iX11_liftedOf_95 rfl rfl ?_
    refine At_iadd (pc' := 98) iX11_liftedOf_97 rfl ?_
    refine At_istore (L' := [.ref 59, v1, v2, .int x3, .int x4, v5, .int x6, .int x7, .int (x8 + x7), v9]) (pc' := 100) iX11_liftedOf_98 rfl (Nat.le_of_ble_eq_true rfl) rfl ?_
    refine At_goto (t := 70) iX11_liftedOf_100 (by decide) ?_
    exact hv _ _ _ _
set_option maxRecDepth 20000 in
theorem b_X11_liftedOf_117 {d : Nat} {T : HT} (hL : Lay T) {h : Hp} (eT : h.2.2 = T) (x4 : Int32) (x8 : Int32) (x9 : Int32)  {Q : Option Value → Hp → Prop} (hv : ((x9 < x4) → ((inB x9 7 = true) ∧ (L_X11_liftedOf_117 d x4 (((nI 10) * x8) + (gI h 70 x9.toNatClampNeg)) (x9 + nI 1) h Q))) ∧ (¬ (x9 < x4) → (Q (some (.int x8)) h))) : L_X11_liftedOf_117 d x4 x8 x9 h Q := by
  intro v1 v2 v3 v5 v6 v7
  refine At_iload (pc' := 119) iX11_liftedOf_117 rfl rfl ?_
  refine At_iload (pc' := 121) iX11_liftedOf_119 rfl rfl ?_
  refine At_icmp_ge (t := 145) (pc' := 124) iX11_liftedOf_121 (by decide) rfl (fun c121 => ?_) (fun c121 => ?_)
  · have hv := hv.2 c121
    refine At_iload (pc' := 147) iX11_liftedOf_145 rfl rfl ?_
    exact At_retI iX11_liftedOf_147 rfl hv
  · have hv := hv.1 c121
    refine At_bipush (v := nI 10) (pc' := 126) iX11_liftedOf_124 rfl (by decide) ?_
    refine At_iload (pc' := 128) iX11_liftedOf_126 rfl rfl ?_
    refine At_imul (pc' := 129) iX11_liftedOf_128 rfl ?_
    refine At_aload_n (pc' := 130) iX11_liftedOf_129 rfl rfl ?_
    refine At_getR (pc' := 133) iX11_liftedOf_130 rfl f_11_44 (kdK eT (kd_59 hL)) (by decide) (rfH eT (rf_59_22 hL)) ?_
    refine At_iload (pc' := 135) iX11_liftedOf_133 rfl rfl ?_
    obtain ⟨hn1, hv⟩ := hv
    refine At_iald (pc' := 136) iX11_liftedOf_135 rfl (kdH eT (kd_70 hL)) hn1 (show At (d + 0) MX11_liftedOf 136 [.ref 59, v1, v2, v3, .int x4, v5, v6, v7, .int x8, .int x9] [.int (gI h 70 x9.toNatClampNeg), .int ((nI 10) * x8)] h Q from ?_)
    refine At_iadd (pc' := 137) iX11_liftedOf_136 rfl ?_
    refine At_istore (L' := [.ref 59, v1, v2, v3, .int x4, v5, v6, (if 0 = 0 ∧ v7.category = 2 then un else v7), .int (((nI 10) * x8) + (gI h 70 x9.toNatClampNeg)), .int x9]) (pc' := 139) iX11_liftedOf_137 rfl (Nat.le_of_ble_eq_true rfl) rfl ?_
    refine At_iinc (v := nI 1) (L' := [.ref 59, v1, v2, v3, .int x4, v5, v6, (if 0 = 0 ∧ v7.category = 2 then un else v7), .int (((nI 10) * x8) + (gI h 70 x9.toNatClampNeg)), .int (x9 + nI 1)]) (pc' := 142) iX11_liftedOf_139 rfl rfl (Nat.le_of_ble_eq_true rfl) (by decide) rfl ?_
    refine At_goto (t := 117) iX11_liftedOf_142 (by decide) ?_
    exact hv _ _ _ _ _ _
