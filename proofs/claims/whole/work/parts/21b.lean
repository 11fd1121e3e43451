-- blocks between loop heads; written out by gen20.py
-- X11_placeOf (loop)
def L_X11_placeOf_12 (d : Nat) (x1 : Int32) (x2 : Int32) (h : Hp) (Q : Option Value → Hp → Prop) : Prop := At (d + 0) MX11_placeOf 12 [.ref 59, .int x1, .int x2] [] h Q
set_option maxRecDepth 20000 in
theorem b_X11_placeOf {d : Nat} {T : HT} (hL : Lay T) {h : Hp} (eT : h.2.2 = T) (x1 : Int32)  {Q : Option Value → Hp → Prop} (hv : L_X11_placeOf_12 d x1 (irem ((x1 * (nI 40503)) &&& (nI 2147483647)) (nI 16384)) h Q) : Call (d + 0) MX11_placeOf [.ref 59, .int x1] h Q := by
  show At (d + 0) MX11_placeOf 0 [.ref 59, .int x1, un] [] h Q
  refine At_iload_n (pc' := 1) iX11_placeOf_0 rfl rfl ?_
  refine At_ldcI (v := nI 40503) (pc' := 3) iX11_placeOf_1 rfl rfl ?_
  refine At_imul (pc' := 4) iX11_placeOf_3 rfl ?_
  refine At_ldcI (v := nI 2147483647) (pc' := 6) iX11_placeOf_4 rfl rfl ?_
  refine At_iand (pc' := 7) iX11_placeOf_6 rfl ?_
  refine At_sipush (v := nI 16384) (pc' := 10) iX11_placeOf_7 rfl (by decide) ?_
  refine At_irem (pc' := 11) iX11_placeOf_10 rfl (by decide) ?_
  refine At_istore_n (L' := [.ref 59, .int x1, .int (irem ((x1 * (nI 40503)) &&& (nI 2147483647)) (nI 16384))]) (pc' := 12) iX11_placeOf_11 rfl (Nat.le_of_ble_eq_true rfl) rfl ?_
  exact hv
set_option maxRecDepth 20000 in
theorem b_X11_placeOf_12 {d : Nat} {T : HT} (hL : Lay T) {h : Hp} (eT : h.2.2 = T) (x1 : Int32) (x2 : Int32)  {Q : Option Value → Hp → Prop} (hv : (inB x2 16384 = true) ∧ ((((gI h 67 x2.toNatClampNeg) = (-1)) → (Q (some (.int x2)) h)) ∧ (¬ ((gI h 67 x2.toNatClampNeg) = (-1)) → ((inB x2 16384 = true) ∧ ((((gI h 67 x2.toNatClampNeg) = x1) → (Q (some (.int x2)) h)) ∧ (¬ ((gI h 67 x2.toNatClampNeg) = x1) → (L_X11_placeOf_12 d x1 (irem (x2 + (nI 1)) (nI 16384)) h Q))))))) : L_X11_placeOf_12 d x1 x2 h Q := by
  refine At_aload_n (pc' := 13) iX11_placeOf_12 rfl rfl ?_
  refine At_getR (pc' := 16) iX11_placeOf_13 rfl f_11_35 (kdK eT (kd_59 hL)) (by decide) (rfH eT (rf_59_19 hL)) ?_
  refine At_iload_n (pc' := 17) iX11_placeOf_16 rfl rfl ?_
  obtain ⟨hn1, hv⟩ := hv
  refine At_iald (pc' := 18) iX11_placeOf_17 rfl (kdH eT (kd_67 hL)) hn1 (show At (d + 0) MX11_placeOf 18 [.ref 59, .int x1, .int x2] [.int (gI h 67 x2.toNatClampNeg)] h Q from ?_)
  refine At_iconst (v := (-1)) (pc' := 19) iX11_placeOf_18 rfl (by decide) ?_
  refine At_icmp_eq (t := 43) (pc' := 22) iX11_placeOf_19 (by decide) rfl (fun c19 => ?_) (fun c19 => ?_)
  · have hv := hv.1 c19
    refine At_iload_n (pc' := 44) iX11_placeOf_43 rfl rfl ?_
    exact At_retI iX11_placeOf_44 rfl hv
  · have hv := hv.2 c19
    refine At_aload_n (pc' := 23) iX11_placeOf_22 rfl rfl ?_
    refine At_getR (pc' := 26) iX11_placeOf_23 rfl f_11_35 (kdK eT (kd_59 hL)) (by decide) (rfH eT (rf_59_19 hL)) ?_
    refine At_iload_n (pc' := 27) iX11_placeOf_26 rfl rfl ?_
    obtain ⟨hn2, hv⟩ := hv
    refine At_iald (pc' := 28) iX11_placeOf_27 rfl (kdH eT (kd_67 hL)) hn2 (show At (d + 0) MX11_placeOf 28 [.ref 59, .int x1, .int x2] [.int (gI h 67 x2.toNatClampNeg)] h Q from ?_)
    refine At_iload_n (pc' := 29) iX11_placeOf_28 rfl rfl ?_
    refine At_icmp_eq (t := 43) (pc' := 32) iX11_placeOf_29 (by decide) rfl (fun c29 => ?_) (fun c29 => ?_)
    · have hv := hv.1 c29
      refine At_iload_n (pc' := 44) iX11_placeOf_43 rfl rfl ?_
      exact At_retI iX11_placeOf_44 rfl hv
    · have hv := hv.2 c29
      refine At_iload_n (pc' := 33) iX11_placeOf_32 rfl rfl ?_
      refine At_iconst (v := nI 1) (pc' := 34) iX11_placeOf_33 rfl (by decide) ?_
      refine At_iadd (pc' := 35) iX11_placeOf_34 rfl ?_
      refine At_sipush (v := nI 16384) (pc' := 38) iX11_placeOf_35 rfl (by decide) ?_
      refine At_irem (pc' := 39) iX11_placeOf_38 rfl (by decide) ?_
      refine At_istore_n (L' := [.ref 59, .int x1, .int (irem (x2 + (nI 1)) (nI 16384))]) (pc' := 40) iX11_placeOf_39 rfl (Nat.le_of_ble_eq_true rfl) rfl ?_
      refine At_goto (t := 12) iX11_placeOf_40 (by decide) ?_
      exact hv
-- X11_sitsAtFirst (loop)
def L_X11_sitsAtFirst_2 (d : Nat) (x1 : Int32) (h : Hp) (Q : Option Value → Hp → Prop) : Prop := At (d + 0) MX11_sitsAtFirst 2 [.ref 59, .int x1] [] h Q
set_option maxRecDepth 20000 in
theorem b_X11_sitsAtFirst {d : Nat} {T : HT} (hL : Lay T) {h : Hp} (eT : h.2.2 = T)   {Q : Option Value → Hp → Prop} (hv : L_X11_sitsAtFirst_2 d (nI 0) h Q) : Call (d + 0) MX11_sitsAtFirst [.ref 59] h Q := by
  show At (d + 0) MX11_sitsAtFirst 0 [.ref 59, un] [] h Q
  refine At_iconst (v := nI 0) (pc' := 1) iX11_sitsAtFirst_0 rfl (by decide) ?_
  refine At_istore_n (L' := [.ref 59, .int (nI 0)]) (pc' := 2) iX11_sitsAtFirst_1 rfl (Nat.le_of_ble_eq_true rfl) rfl ?_
  exact hv
set_option maxRecDepth 20000 in
theorem b_X11_sitsAtFirst_2 {d : Nat} {T : HT} (hL : Lay T) {h : Hp} (eT : h.2.2 = T) (x1 : Int32)  {Q : Option Value → Hp → Prop} (hv : ((x1 < (gI h 60 0)) → ((inB x1 16 = true) ∧ (L_X11_sitsAtFirst_2 d (x1 + nI 1) (sI h 65 x1.toNatClampNeg x1) Q))) ∧ (¬ (x1 < (gI h 60 0)) → (Q none h))) : L_X11_sitsAtFirst_2 d x1 h Q := by
  refine At_iload_n (pc' := 3) iX11_sitsAtFirst_2 rfl rfl ?_
  refine At_aload_n (pc' := 4) iX11_sitsAtFirst_3 rfl rfl ?_
  refine At_getR (pc' := 7) iX11_sitsAtFirst_4 rfl f_11_7 (kdK eT (kd_59 hL)) (by decide) (rfH eT (rf_59_0 hL)) ?_
  refine At_iconst (v := nI 0) (pc' := 8) iX11_sitsAtFirst_7 rfl (by decide) ?_
  refine At_iald (pc' := 9) iX11_sitsAtFirst_8 rfl (kdH eT (kd_60 hL)) (by decide) (show At (d + 0) MX11_sitsAtFirst 9 [.ref 59, .int x1] [.int (gI h 60 0), .int x1] h Q from ?_)
  refine At_icmp_ge (t := 25) (pc' := 12) iX11_sitsAtFirst_9 (by decide) rfl (fun c9 => ?_) (fun c9 => ?_)
  · have hv := hv.2 c9
    exact At_retV iX11_sitsAtFirst_25 rfl hv
  · have hv := hv.1 c9
    refine At_aload_n (pc' := 13) iX11_sitsAtFirst_12 rfl rfl ?_
    refine At_getR (pc' := 16) iX11_sitsAtFirst_13 rfl f_11_29 (kdK eT (kd_59 hL)) (by decide) (rfH eT (rf_59_17 hL)) ?_
    refine At_iload_n (pc' := 17) iX11_sitsAtFirst_16 rfl rfl ?_
    refine At_iload_n (pc' := 18) iX11_sitsAtFirst_17 rfl rfl ?_
    obtain ⟨hn1, hv⟩ := hv
    refine At_iast (pc' := 19) iX11_sitsAtFirst_18 rfl (kdH eT (kd_65 hL)) hn1 (show At (d + 0) MX11_sitsAtFirst 19 [.ref 59, .int x1] [] (sI h 65 x1.toNatClampNeg x1) Q from ?_)
    refine At_iinc (v := nI 1) (L' := [.ref 59, .int (x1 + nI 1)]) (pc' := 22) iX11_sitsAtFirst_19 rfl rfl (Nat.le_of_ble_eq_true rfl) (by decide) rfl ?_
    refine At_goto (t := 2) iX11_sitsAtFirst_22 (by decide) ?_
    exact hv
-- X11_sitsNow (loop)
def L_X11_sitsNow_2 (d : Nat) (x1 : Int32) (h : Hp) (Q : Option Value → Hp → Prop) : Prop := At (d + 0) MX11_sitsNow 2 [.ref 59, .int x1] [] h Q
set_option maxRecDepth 20000 in
theorem b_X11_sitsNow {d : Nat} {T : HT} (hL : Lay T) {h : Hp} (eT : h.2.2 = T)   {Q : Option Value → Hp → Prop} (hv : L_X11_sitsNow_2 d (nI 0) h Q) : Call (d + 0) MX11_sitsNow [.ref 59] h Q := by
  show At (d + 0) MX11_sitsNow 0 [.ref 59, un] [] h Q
  refine At_iconst (v := nI 0) (pc' := 1) iX11_sitsNow_0 rfl (by decide) ?_
  refine At_istore_n (L' := [.ref 59, .int (nI 0)]) (pc' := 2) iX11_sitsNow_1 rfl (Nat.le_of_ble_eq_true rfl) rfl ?_
  exact hv
set_option maxRecDepth 20000 in
theorem b_X11_sitsNow_2 {d : Nat} {T : HT} (hL : Lay T) {h : Hp} (eT : h.2.2 = T) (x1 : Int32)  {Q : Option Value → Hp → Prop} (hv : ((x1 < (gI h 60 0)) → ((inB ((nI 42) + x1) 4180 = true) ∧ ((inB x1 16 = true) ∧ (L_X11_sitsNow_2 d (x1 + nI 1) (sI h 65 x1.toNatClampNeg (gI h 60 (((nI 42) + x1).toNatClampNeg))) Q)))) ∧ (¬ (x1 < (gI h 60 0)) → (Q none h))) : L_X11_sitsNow_2 d x1 h Q := by
  refine At_iload_n (pc' := 3) iX11_sitsNow_2 rfl rfl ?_
  refine At_aload_n (pc' := 4) iX11_sitsNow_3 rfl rfl ?_
  refine At_getR (pc' := 7) iX11_sitsNow_4 rfl f_11_7 (kdK eT (kd_59 hL)) (by decide) (rfH eT (rf_59_0 hL)) ?_
  refine At_iconst (v := nI 0) (pc' := 8) iX11_sitsNow_7 rfl (by decide) ?_
  refine At_iald (pc' := 9) iX11_sitsNow_8 rfl (kdH eT (kd_60 hL)) (by decide) (show At (d + 0) MX11_sitsNow 9 [.ref 59, .int x1] [.int (gI h 60 0), .int x1] h Q from ?_)
  refine At_icmp_ge (t := 33) (pc' := 12) iX11_sitsNow_9 (by decide) rfl (fun c9 => ?_) (fun c9 => ?_)
  · have hv := hv.2 c9
    exact At_retV iX11_sitsNow_33 rfl hv
  · have hv := hv.1 c9
    refine At_aload_n (pc' := 13) iX11_sitsNow_12 rfl rfl ?_
    refine At_getR (pc' := 16) iX11_sitsNow_13 rfl f_11_29 (kdK eT (kd_59 hL)) (by decide) (rfH eT (rf_59_17 hL)) ?_
    refine At_iload_n (pc' := 17) iX11_sitsNow_16 rfl rfl ?_
    refine At_aload_n (pc' := 18) iX11_sitsNow_17 rfl rfl ?_
    refine At_getR (pc' := 21) iX11_sitsNow_18 rfl f_11_7 (kdK eT (kd_59 hL)) (by decide) (rfH eT (rf_59_0 hL)) ?_
    refine At_bipush (v := nI 42) (pc' := 23) iX11_sitsNow_21 rfl (by decide) ?_
    refine At_iload_n (pc' := 24) iX11_sitsNow_23 rfl rfl ?_
    refine At_iadd (pc' := 25) iX11_sitsNow_24 rfl ?_
    obtain ⟨hn1, hv⟩ := hv
    refine At_iald (pc' := 26) iX11_sitsNow_25 rfl (kdH eT (kd_60 hL)) hn1 (show At (d + 0) MX11_sitsNow 26 [.ref 59, .int x1] [.int (gI h 60 (((nI 42) + x1).toNatClampNeg)), .int x1, .ref 65] h Q from ?_)
    obtain ⟨hn2, hv⟩ := hv
    refine At_iast (pc' := 27) iX11_sitsNow_26 rfl (kdH eT (kd_65 hL)) hn2 (show At (d + 0) MX11_sitsNow 27 [.ref 59, .int x1] [] (sI h 65 x1.toNatClampNeg (gI h 60 (((nI 42) + x1).toNatClampNeg))) Q from ?_)
    refine At_iinc (v := nI 1) (L' := [.ref 59, .int (x1 + nI 1)]) (pc' := 30) iX11_sitsNow_27 rfl rfl (Nat.le_of_ble_eq_true rfl) (by decide) rfl ?_
    refine At_goto (t := 2) iX11_sitsNow_30 (by decide) ?_
    exact hv
-- X11_slotOf (loop)
def L_X11_slotOf_2 (d : Nat) (x1 : Int32) (x2 : Int32) (h : Hp) (Q : Option Value → Hp → Prop) : Prop := At (d + 0) MX11_slotOf 2 [.ref 59, .int x1, .int x2] [] h Q
set_option maxRecDepth 20000 in
theorem b_X11_slotOf {d : Nat} {T : HT} (hL : Lay T) {h : Hp} (eT : h.2.2 = T) (x1 : Int32)  {Q : Option Value → Hp → Prop} (hv : L_X11_slotOf_2 d x1 (nI 0) h Q) : Call (d + 0) MX11_slotOf [.ref 59, .int x1] h Q := by
  show At (d + 0) MX11_slotOf 0 [.ref 59, .int x1, un] [] h Q
  refine At_iconst (v := nI 0) (pc' := 1) iX11_slotOf_0 rfl (by decide) ?_
  refine At_istore_n (L' := [.ref 59, .int x1, .int (nI 0)]) (pc' := 2) iX11_slotOf_1 rfl (Nat.le_of_ble_eq_true rfl) rfl ?_
  exact hv
set_option maxRecDepth 20000 in
theorem b_X11_slotOf_2 {d : Nat} {T : HT} (hL : Lay T) {h : Hp} (eT : h.2.2 = T) (x1 : Int32) (x2 : Int32)  {Q : Option Value → Hp → Prop} (hv : (inB ((nI 42) + x2) 4180 = true) ∧ ((((gI h 60 (((nI 42) + x2).toNatClampNeg)) = x1) → (Q (some (.int x2)) h)) ∧ (¬ ((gI h 60 (((nI 42) + x2).toNatClampNeg)) = x1) → (L_X11_slotOf_2 d x1 (x2 + nI 1) h Q)))) : L_X11_slotOf_2 d x1 x2 h Q := by
  refine At_aload_n (pc' := 3) iX11_slotOf_2 rfl rfl ?_
  refine At_getR (pc' := 6) iX11_slotOf_3 rfl f_11_7 (kdK eT (kd_59 hL)) (by decide) (rfH eT (rf_59_0 hL)) ?_
  refine At_bipush (v := nI 42) (pc' := 8) iX11_slotOf_6 rfl (by decide) ?_
  refine At_iload_n (pc' := 9) iX11_slotOf_8 rfl rfl ?_
  refine At_iadd (pc' := 10) iX11_slotOf_9 rfl ?_
  obtain ⟨hn1, hv⟩ := hv
  refine At_iald (pc' := 11) iX11_slotOf_10 rfl (kdH eT (kd_60 hL)) hn1 (show At (d + 0) MX11_slotOf 11 [.ref 59, .int x1, .int x2] [.int (gI h 60 (((nI 42) + x2).toNatClampNeg))] h Q from ?_)
  refine At_iload_n (pc' := 12) iX11_slotOf_11 rfl rfl ?_
  refine At_icmp_eq (t := 21) (pc' := 15) iX11_slotOf_12 (by decide) rfl (fun c12 => ?_) (fun c12 => ?_)
  · have hv := hv.1 c12
    refine At_iload_n (pc' := 22) iX11_slotOf_21 rfl rfl ?_
    exact At_retI iX11_slotOf_22 rfl hv
  · have hv := hv.2 c12
    refine At_iinc (v := nI 1) (L' := [.ref 59, .int x1, .int (x2 + nI 1)]) (pc' := 18) iX11_slotOf_15 rfl rfl (Nat.le_of_ble_eq_true rfl) (by decide) rfl ?_
    refine At_goto (t := 2) iX11_slotOf_18 (by decide) ?_
    exact hv
-- X11_turns (loop)
def L_X11_turns_9 (d : Nat) (x1 : Int32) (x2 : Int32) (x3 : Int32) (h : Hp) (Q : Option Value → Hp → Prop) : Prop := At (d + 0) MX11_turns 9 [.ref 59, .int x1, .int x2, .int x3] [] h Q
def L_X11_turns_38 (d : Nat) (x2 : Int32) (x3 : Int32) (h : Hp) (Q : Option Value → Hp → Prop) : Prop := ∀ v1 : Value, At (d + 0) MX11_turns 38 [.ref 59, v1, .int x2, .int x3] [] h Q
set_option maxRecDepth 20000 in
theorem b_X11_turns {d : Nat} {T : HT} (hL : Lay T) {h : Hp} (eT : h.2.2 = T) (x1 : Int32)  {Q : Option Value → Hp → Prop} (hv : L_X11_turns_9 d x1 (gI h 60 0) (nI 0) h Q) : Call (d + 0) MX11_turns [.ref 59, .int x1] h Q := by
  show At (d + 0) MX11_turns 0 [.ref 59, .int x1, un, un] [] h Q
  refine At_aload_n (pc' := 1) iX11_turns_0 rfl rfl ?_
  refine At_getR (pc' := 4) iX11_turns_1 rfl f_11_7 (kdK eT (kd_59 hL)) (by decide) (rfH eT (rf_59_0 hL)) ?_
  refine At_iconst (v := nI 0) (pc' := 5) iX11_turns_4 rfl (by decide) ?_
  refine At_iald (pc' := 6) iX11_turns_5 rfl (kdH eT (kd_60 hL)) (by decide) (show At (d + 0) MX11_turns 6 [.ref 59, .int x1, un, un] [.int (gI h 60 0)] h Q from ?_)
  refine At_istore_n (L' := [.ref 59, .int x1, .int (gI h 60 0), un]) (pc' := 7) iX11_turns_6 rfl (Nat.le_of_ble_eq_true rfl) rfl ?_
  refine At_iconst (v := nI 0) (pc' := 8) iX11_turns_7 rfl (by decide) ?_
  refine At_istore_n (L' := [.ref 59, .int x1, .int (gI h 60 0), .int (nI 0)]) (pc' := 9) iX11_turns_8 rfl (Nat.le_of_ble_eq_true rfl) rfl ?_
  exact hv
set_option maxRecDepth 20000 in
theorem b_X11_turns_9 {d : Nat} {T : HT} (hL : Lay T) {h : Hp} (eT : h.2.2 = T) (x1 : Int32) (x2 : Int32) (x3 : Int32)  {Q : Option Value → Hp → Prop} (hv : ((x3 < x2) → ((¬ x2 = 0) ∧ ((inB x3 16 = true) ∧ ((inB (irem (x3 + x1) x2) 16 = true) ∧ (L_X11_turns_9 d x1 x2 (x3 + nI 1) (sI h 66 ((irem (x3 + x1) x2).toNatClampNeg) (gI h 65 x3.toNatClampNeg)) Q))))) ∧ (¬ (x3 < x2) → (L_X11_turns_38 d x2 (nI 0) h Q))) : L_X11_turns_9 d x1 x2 x3 h Q := by
  refine At_iload_n (pc' := 10) iX11_turns_9 rfl rfl ?_
  refine At_iload_n (pc' := 11) iX11_turns_10 rfl rfl ?_
  refine At_icmp_ge (t := 36) (pc' := 14) iX11_turns_11 (by decide) rfl (fun c11 => ?_) (fun c11 => ?_)
  · have hv := hv.2 c11
    refine At_iconst (v := nI 0) (pc' := 37) iX11_turns_36 rfl (by decide) ?_
    refine At_istore_n (L' := [.ref 59, .int x1, .int x2, .int (nI 0)]) (pc' := 38) iX11_turns_37 rfl (Nat.le_of_ble_eq_true rfl) rfl ?_
    exact hv _
  · have hv := hv.1 c11
    refine At_aload_n (pc' := 15) iX11_turns_14 rfl rfl ?_
    refine At_getR (pc' := 18) iX11_turns_15 rfl f_11_32 (kdK eT (kd_59 hL)) (by decide) (rfH eT (rf_59_18 hL)) ?_
    refine At_iload_n (pc' := 19) iX11_turns_18 rfl rfl ?_
    refine At_iload_n (pc' := 20) iX11_turns_19 rfl rfl ?_
    refine At_iadd (pc' := 21) iX11_turns_20 rfl ?_
    refine At_iload_n (pc' := 22) iX11_turns_21 rfl rfl ?_
    obtain ⟨hn1, hv⟩ := hv
    refine At_irem (pc' := 23) iX11_turns_22 rfl hn1 ?_
    refine At_aload_n (pc' := 24) iX11_turns_23 rfl rfl ?_
    refine At_getR (pc' := 27) iX11_turns_24 rfl f_11_29 (kdK eT (kd_59 hL)) (by decide) (rfH eT (rf_59_17 hL)) ?_
    refine At_iload_n (pc' := 28) iX11_turns_27 rfl rfl ?_
    obtain ⟨hn2, hv⟩ := hv
    refine At_iald (pc' := 29) iX11_turns_28 rfl (kdH eT (kd_65 hL)) hn2 (show At (d + 0) MX11_turns 29 [.ref 59, .int x1, .int x2, .int x3] [.int (gI h 65 x3.toNatClampNeg), .int (irem (x3 + x1) x2), .ref 66] h Q from ?_)
    obtain ⟨hn3, hv⟩ := hv
    refine At_iast (pc' := 30) iX11_turns_29 rfl (kdH eT (kd_66 hL)) hn3 (show At (d + 0) MX11_turns 30 [.ref 59, .int x1, .int x2, .int x3] [] (sI h 66 ((irem (x3 + x1) x2).toNatClampNeg) (gI h 65 x3.toNatClampNeg)) Q from ?_)
    refine At_iinc (v := nI 1) (L' := [.ref 59, .int x1, .int x2, .int (x3 + nI 1)]) (pc' := 33) iX11_turns_30 rfl rfl (Nat.le_of_ble_eq_true rfl) (by decide) rfl ?_
    refine At_goto (t := 9) iX11_turns_33 (by decide) ?_
    exact hv
set_option maxRecDepth 20000 in
theorem b_X11_turns_38 {d : Nat} {T : HT} (hL : Lay T) {h : Hp} (eT : h.2.2 = T) (x2 : Int32) (x3 : Int32)  {Q : Option Value → Hp → Prop} (hv : ((x3 < x2) → ((inB x3 16 = true) ∧ ((inB x3 16 = true) ∧ (L_X11_turns_38 d x2 (x3 + nI 1) (sI h 65 x3.toNatClampNeg (gI h 66 x3.toNatClampNeg)) Q)))) ∧ (¬ (x3 < x2) → (Q none h))) : L_X11_turns_38 d x2 x3 h Q := by
  intro v1
  refine At_iload_n (pc' := 39) iX11_turns_38 rfl rfl ?_
  refine At_iload_n (pc' := 40) iX11_turns_39 rfl rfl ?_
  refine At_icmp_ge (t := 61) (pc' := 43) iX11_turns_40 (by decide) rfl (fun c40 => ?_) (fun c40 => ?_)
  · have hv := hv.2 c40
    exact At_retV iX11_turns_61 rfl hv
  · have hv := hv.1 c40
    refine At_aload_n (pc' := 44) iX11_turns_43 rfl rfl ?_
    refine At_getR (pc' := 47) iX11_turns_44 rfl f_11_29 (kdK eT (kd_59 hL)) (by decide) (rfH eT (rf_59_17 hL)) ?_
    refine At_iload_n (pc' := 48) iX11_turns_47 rfl rfl ?_
    refine At_aload_n (pc' := 49) iX11_turns_48 rfl rfl ?_
    refine At_getR (pc' := 52) iX11_turns_49 rfl f_11_32 (kdK eT (kd_59 hL)) (by decide) (rfH eT (rf_59_18 hL)) ?_
    refine At_iload_n (pc' := 53) iX11_turns_52 rfl rfl ?_
    obtain ⟨hn1, hv⟩ := hv
    refine At_iald (pc' := 54) iX11_turns_53 rfl (kdH eT (kd_66 hL)) hn1 (show At (d + 0) MX11_turns 54 [.ref 59, v1, .int x2, .int x3] [.int (gI h 66 x3.toNatClampNeg), .int x3, .ref 65] h Q from ?_)
    obtain ⟨hn2, hv⟩ := hv
    refine At_iast (pc' := 55) iX11_turns_54 rfl (kdH eT (kd_65 hL)) hn2 (show At (d + 0) MX11_turns 55 [.ref 59, v1, .int x2, .int x3] [] (sI h 65 x3.toNatClampNeg (gI h 66 x3.toNatClampNeg)) Q from ?_)
    refine At_iinc (v := nI 1) (L' := [.ref 59, v1, .int x2, .int (x3 + nI 1)]) (pc' := 58) iX11_turns_55 rfl rfl (Nat.le_of_ble_eq_true rfl) (by decide) rfl ?_
    refine At_goto (t := 38) iX11_turns_58 (by decide) ?_
    exact hv _
-- X11_undo (loop)
def L_X11_undo_21 (d : Nat) (x1 : Int32) (h : Hp) (Q : Option Value → Hp → Prop) : Prop := At (d + 0) MX11_undo 21 [.ref 59, .int x1] [] h Q
set_option maxRecDepth 20000 in
theorem b_X11_undo {d : Nat} {T : HT} (hL : Lay T) {h : Hp} (eT : h.2.2 = T)   {Q : Option Value → Hp → Prop} (hv : (((gI h 59 3) = 0) → (Q (some (.int (b2i false))) h)) ∧ (¬ ((gI h 59 3) = 0) → (L_X11_undo_21 d (nI 0) (sI h 59 3 ((gI h 59 3) - (nI 1))) Q))) : Call (d + 0) MX11_undo [.ref 59] h Q := by
  show At (d + 0) MX11_undo 0 [.ref 59, un] [] h Q
  refine At_aload_n (pc' := 1) iX11_undo_0 rfl rfl ?_
  refine At_getI (pc' := 4) iX11_undo_1 rfl f_11_69 (kdK eT (kd_59 hL)) (by decide) ?_
  refine At_if_ne (t := 9) (pc' := 7) iX11_undo_4 (by decide) rfl (fun c4 => ?_) (fun c4 => ?_)
  · have hv := hv.2 c4
    refine At_aload_n (pc' := 10) iX11_undo_9 rfl rfl ?_
    refine At_dup (pc' := 11) iX11_undo_10 rfl rfl ?_
    refine At_getI (pc' := 14) iX11_undo_11 rfl f_11_69 (kdK eT (kd_59 hL)) (by decide) ?_
    refine At_iconst (v := nI 1) (pc' := 15) iX11_undo_14 rfl (by decide) ?_
    refine At_isub (pc' := 16) iX11_undo_15 rfl ?_
    refine At_putI (pc' := 19) iX11_undo_16 rfl f_11_69 (kdK eT (kd_59 hL)) (Or.inl rfl) (by decide) ?_
    refine At_iconst (v := nI 0) (pc' := 20) iX11_undo_19 rfl (by decide) ?_
    refine At_istore_n (L' := [.ref 59, .int (nI 0)]) (pc' := 21) iX11_undo_20 rfl (Nat.le_of_ble_eq_true rfl) rfl ?_
    exact hv
  · have hv := hv.1 c4
    refine At_iconst (v := nI 0) (pc' := 8) iX11_undo_7 rfl (by decide) ?_
    exact At_retF iX11_undo_8 rfl hv
set_option maxRecDepth 20000 in
theorem b_X11_undo_21 {d : Nat} {T : HT} (hL : Lay T) {h : Hp} (eT : h.2.2 = T) (x1 : Int32)  {Q : Option Value → Hp → Prop} (hv : ((x1 < (nI 316)) → ((inB (((nI 316) * (gI h 59 3)) + x1) 1896 = true) ∧ ((inB x1 4180 = true) ∧ (L_X11_undo_21 d (x1 + nI 1) (sI h 60 x1.toNatClampNeg (gI h 62 ((((nI 316) * (gI h 59 3)) + x1).toNatClampNeg))) Q)))) ∧ (¬ (x1 < (nI 316)) → (Q (some (.int (b2i true))) h))) : L_X11_undo_21 d x1 h Q := by
  refine At_iload_n (pc' := 22) iX11_undo_21 rfl rfl ?_
  refine At_sipush (v := nI 316) (pc' := 25) iX11_undo_22 rfl (by decide) ?_
  refine At_icmp_ge (t := 55) (pc' := 28) iX11_undo_25 (by decide) rfl (fun c25 => ?_) (fun c25 => ?_)
  · have hv := hv.2 c25
    refine At_iconst (v := nI 1) (pc' := 56) iX11_undo_55 rfl (by decide) ?_
    exact At_retT iX11_undo_56 rfl hv
  · have hv := hv.1 c25
    refine At_aload_n (pc' := 29) iX11_undo_28 rfl rfl ?_
    refine At_getR (pc' := 32) iX11_undo_29 rfl f_11_7 (kdK eT (kd_59 hL)) (by decide) (rfH eT (rf_59_0 hL)) ?_
    refine At_iload_n (pc' := 33) iX11_undo_32 rfl rfl ?_
    refine At_aload_n (pc' := 34) iX11_undo_33 rfl rfl ?_
    refine At_getR (pc' := 37) iX11_undo_34 rfl f_11_16 (kdK eT (kd_59 hL)) (by decide) (rfH eT (rf_59_2 hL)) ?_
    refine At_sipush (v := nI 316) (pc' := 40) iX11_undo_37 rfl (by decide) ?_
    refine At_aload_n (pc' := 41) iX11_undo_40 rfl rfl ?_
    refine At_getI (pc' := 44) iX11_undo_41 rfl f_11_69 (kdK eT (kd_59 hL)) (by decide) ?_
    refine At_imul (pc' := 45) iX11_undo_44 rfl ?_
    refine At_iload_n (pc' := 46) iX11_undo_45 rfl rfl ?_
    refine At_iadd (pc' := 47) iX11_undo_46 rfl ?_
    obtain ⟨hn1, hv⟩ := hv
    refine At_iald (pc' := 48) iX11_undo_47 rfl (kdH eT (kd_62 hL)) hn1 (show At (d + 0) MX11_undo 48 [.ref 59, .int x1] [.int (gI h 62 ((((nI 316) * (gI h 59 3)) + x1).toNatClampNeg)), .int x1, .ref 60] h Q from ?_)
    obtain ⟨hn2, hv⟩ := hv
    refine At_iast (pc' := 49) iX11_undo_48 rfl (kdH eT (kd_60 hL)) hn2 (show At (d + 0) MX11_undo 49 [.ref 59, .int x1] [] (sI h 60 x1.toNatClampNeg (gI h 62 ((((nI 316) * (gI h 59 3)) + x1).toNatClampNeg))) Q from ?_)
    refine At_iinc (v := nI 1) (L' := [.ref 59, .int (x1 + nI 1)]) (pc' := 52) iX11_undo_49 rfl rfl (Nat.le_of_ble_eq_true rfl) (by decide) rfl ?_
    refine At_goto (t := 21) iX11_undo_52 (by decide) ?_
    exact hv
-- J7_fill_53178 (loop)
def L_J7_fill_53178_5 (d : Nat) (x0 : Nat) (n0 : Nat) (x1 : Int32) (x2 : Int32) (x3 : Int32) (h : Hp) (Q : Option Value → Hp → Prop) : Prop := At (d + 0) MJ7_fill_53178 5 [.ref x0, .int x1, .int x2, .int x3] [] h Q
set_option maxRecDepth 20000 in
theorem b_J7_fill_53178 {d : Nat} {T : HT} (hL : Lay T) {h : Hp} (eT : h.2.2 = T) (x0 : Nat) (n0 : Nat) (x1 : Int32) (hk0 : kd T x0 = (1, n0)) {Q : Option Value → Hp → Prop} (hv : L_J7_fill_53178_5 d x0 n0 x1 (nI 0) (nI n0) h Q) : Call (d + 0) MJ7_fill_53178 [.ref x0, .int x1] h Q := by
  show At (d + 0) MJ7_fill_53178 0 [.ref x0, .int x1, un, un] [] h Q
  refine At_iconst (v := nI 0) (pc' := 1) iJ7_fill_53178_0 rfl (by decide) ?_
  refine At_istore_n (L' := [.ref x0, .int x1, .int (nI 0), un]) (pc' := 2) iJ7_fill_53178_1 rfl (Nat.le_of_ble_eq_true rfl) rfl ?_
  refine At_aload_n (pc' := 3) iJ7_fill_53178_2 rfl rfl ?_
  refine At_alen (pc' := 4) iJ7_fill_53178_3 rfl (kdH eT hk0) (by decide) ?_
  refine At_istore_n (L' := [.ref x0, .int x1, .int (nI 0), .int (nI n0)]) (pc' := 5) iJ7_fill_53178_4 rfl (Nat.le_of_ble_eq_true rfl) rfl ?_
  exact hv
set_option maxRecDepth 20000 in
theorem b_J7_fill_53178_5 {d : Nat} {T : HT} (hL : Lay T) {h : Hp} (eT : h.2.2 = T) (x0 : Nat) (n0 : Nat) (x1 : Int32) (x2 : Int32) (x3 : Int32) (hk0 : kd T x0 = (1, n0)) {Q : Option Value → Hp → Prop} (hv : ((x2 < x3) → ((inB x2 n0 = true) ∧ (L_J7_fill_53178_5 d x0 n0 x1 (x2 + nI 1) x3 (sI h x0 x2.toNatClampNeg x1) Q))) ∧ (¬ (x2 < x3) → (Q none h))) : L_J7_fill_53178_5 d x0 n0 x1 x2 x3 h Q := by
  refine At_iload_n (pc' := 6) iJ7_fill_53178_5 rfl rfl ?_
  refine At_iload_n (pc' := 7) iJ7_fill_53178_6 rfl rfl ?_
  refine At_icmp_ge (t := 20) (pc' := 10) iJ7_fill_53178_7 (by decide) rfl (fun c7 => ?_) (fun c7 => ?_)
  · have hv := hv.2 c7
    exact At_retV iJ7_fill_53178_20 rfl hv
  · have hv := hv.1 c7
    refine At_aload_n (pc' := 11) iJ7_fill_53178_10 rfl rfl ?_
    refine At_iload_n (pc' := 12) iJ7_fill_53178_11 rfl rfl ?_
    refine At_iload_n (pc' := 13) iJ7_fill_53178_12 rfl rfl ?_
    obtain ⟨hn1, hv⟩ := hv
    refine At_iast (pc' := 14) iJ7_fill_53178_13 rfl (kdH eT hk0) hn1 (show At (d + 0) MJ7_fill_53178 14 [.ref x0, .int x1, .int x2, .int x3] [] (sI h x0 x2.toNatClampNeg x1) Q from ?_)
    refine At_iinc (v := nI 1) (L' := [.ref x0, .int x1, .int (x2 + nI 1), .int x3]) (pc' := 17) iJ7_fill_53178_14 rfl rfl (Nat.le_of_ble_eq_true rfl) (by decide) rfl ?_
    refine At_goto (t := 5) iJ7_fill_53178_17 (by decide) ?_
    exact hv
-- X1_countOver (loop)
def L_X1_countOver_44 (d : Nat) (a : Nat) (x2 : Int32) (x3 : Int32) (x4 : Int32) (x5 : Int32) (x6 : Int32) (h : Hp) (Q : Option Value → Hp → Prop) : Prop := ∀ v1 : Value, At (d + 1) MX1_countOver 44 [.ref a, v1, .int x2, .int x3, .int x4, .int x5, .int x6] [] h Q
set_option maxRecDepth 20000 in
theorem b_X1_countOver {d : Nat} {T : HT} (hL : Lay T) {h : Hp} (eT : h.2.2 = T) (a : Nat) (x1 : Int32) (hA : IsX1 T a) {Q : Option Value → Hp → Prop} (hv : (((r_X4_kind x1) = 0) → (L_X1_countOver_44 d a (r_X4_from x1) (r_X4_to x1) ((r_X6_get (gJ h a 0) (r_X4_from x1)) * (nI 16)) (nI 1) (if (r_X4_to x1) < (r_X4_from x1) then r_X4_to x1 else r_X4_from x1) h Q)) ∧ (¬ ((r_X4_kind x1) = 0) → (L_X1_countOver_44 d a (r_X4_from x1) (r_X4_to x1) ((r_X6_get (gJ h a 0) (r_X4_from x1)) * (nI 16)) (nI 0) (if (r_X4_to x1) < (r_X4_from x1) then r_X4_to x1 else r_X4_from x1) h Q))) : Call (d + 1) MX1_countOver [.ref a, .int x1] h Q := by
  show At (d + 1) MX1_countOver 0 [.ref a, .int x1, un, un, un, un, un] [] h Q
  refine At_iload_n (pc' := 1) iX1_countOver_0 rfl rfl ?_
  refine At_stat (pc' := 4) iX1_countOver_1 rfl m_1_78 rfl rfl (Nat.le_of_ble_eq_true rfl) (Nat.le_of_ble_eq_true rfl) (Nat.le_of_ble_eq_true rfl) ?_
  refine c_X4_from (h := h) x1   (show At (d + 1) MX1_countOver 4 [.ref a, .int x1, un, un, un, un, un] [.int (r_X4_from x1)] h Q from ?_)
  refine At_istore_n (L' := [.ref a, .int x1, .int (r_X4_from x1), un, un, un, un]) (pc' := 5) iX1_countOver_4 rfl (Nat.le_of_ble_eq_true rfl) rfl ?_
  refine At_iload_n (pc' := 6) iX1_countOver_5 rfl rfl ?_
  refine At_stat (pc' := 9) iX1_countOver_6 rfl m_1_90 rfl rfl (Nat.le_of_ble_eq_true rfl) (Nat.le_of_ble_eq_true rfl) (Nat.le_of_ble_eq_true rfl) ?_
  refine c_X4_to (h := h) x1   (show At (d + 1) MX1_countOver 9 [.ref a, .int x1, .int (r_X4_from x1), un, un, un, un] [.int (r_X4_to x1)] h Q from ?_)
  refine At_istore_n (L' := [.ref a, .int x1, .int (r_X4_from x1), .int (r_X4_to x1), un, un, un]) (pc' := 10) iX1_countOver_9 rfl (Nat.le_of_ble_eq_true rfl) rfl ?_
  refine At_aload_n (pc' := 11) iX1_countOver_10 rfl rfl ?_
  refine At_getJ (pc' := 14) iX1_countOver_11 rfl f_1_15 (kdK eT (X1_k0 hA)) (by decide) ?_
  refine At_iload_n (pc' := 15) iX1_countOver_14 rfl rfl ?_
  refine At_stat (pc' := 18) iX1_countOver_15 rfl m_1_82 rfl rfl (Nat.le_of_ble_eq_true rfl) (Nat.le_of_ble_eq_true rfl) (Nat.le_of_ble_eq_true rfl) ?_
  refine c_X6_get (h := h) (gJ h a 0) (r_X4_from x1)   (show At (d + 1) MX1_countOver 18 [.ref a, .int x1, .int (r_X4_from x1), .int (r_X4_to x1), un, un, un] [.int (r_X6_get (gJ h a 0) (r_X4_from x1))] h Q from ?_)
  refine At_bipush (v := nI 16) (pc' := 20) iX1_countOver_18 rfl (by decide) ?_
  refine At_imul (pc' := 21) iX1_countOver_20 rfl ?_
  refine At_istore (L' := [.ref a, .int x1, .int (r_X4_from x1), .int (r_X4_to x1), .int ((r_X6_get (gJ h a 0) (r_X4_from x1)) * (nI 16)), un, un]) (pc' := 23) iX1_countOver_21 rfl (Nat.le_of_ble_eq_true rfl) rfl ?_
  refine At_iload_n (pc' := 24) iX1_countOver_23 rfl rfl ?_
  refine At_stat (pc' := 27) iX1_countOver_24 rfl m_1_93 rfl rfl (Nat.le_of_ble_eq_true rfl) (Nat.le_of_ble_eq_true rfl) (Nat.le_of_ble_eq_true rfl) ?_
  refine c_X4_kind (h := h) x1   (show At (d + 1) MX1_countOver 27 [.ref a, .int x1, .int (r_X4_from x1), .int (r_X4_to x1), .int ((r_X6_get (gJ h a 0) (r_X4_from x1)) * (nI 16)), un, un] [.int (r_X4_kind x1)] h Q from ?_)
  refine At_if_ne (t := 34) (pc' := 30) iX1_countOver_27 (by decide) rfl (fun c27 => ?_) (fun c27 => ?_)
  · have hv := hv.2 c27
    refine At_iconst (v := nI 0) (pc' := 35) iX1_countOver_34 rfl (by decide) ?_
    refine At_istore (L' := [.ref a, .int x1, .int (r_X4_from x1), .int (r_X4_to x1), .int ((r_X6_get (gJ h a 0) (r_X4_from x1)) * (nI 16)), .int (nI 0), un]) (pc' := 37) iX1_countOver_35 rfl (Nat.le_of_ble_eq_true rfl) rfl ?_
    refine At_iload_n (pc' := 38) iX1_countOver_37 rfl rfl ?_
    refine At_iload_n (pc' := 39) iX1_countOver_38 rfl rfl ?_
    refine At_min (pc' := 42) iX1_countOver_39 rfl m_1_96 (Nat.le_of_ble_eq_true rfl) ?_
    refine At_istore (L' := [.ref a, .int x1, .int (r_X4_from x1), .int (r_X4_to x1), .int ((r_X6_get (gJ h a 0) (r_X4_from x1)) * (nI 16)), .int (nI 0), .int (if (r_X4_to x1) < (r_X4_from x1) then r_X4_to x1 else r_X4_from x1)]) (pc' := 44) iX1_countOver_42 rfl (Nat.le_of_ble_eq_true rfl) rfl ?_
    exact hv _
  · have hv := hv.1 c27
    refine At_iconst (v := nI 1) (pc' := 31) iX1_countOver_30 rfl (by decide) ?_
    refine At_goto (t := 35) iX1_countOver_31 (by decide) ?_
    refine At_istore (L' := [.ref a, .int x1, .int (r_X4_from x1), .int (r_X4_to x1), .int ((r_X6_get (gJ h a 0) (r_X4_from x1)) * (nI 16)), .int (nI 1), un]) (pc' := 37) iX1_countOver_35 rfl (Nat.le_of_ble_eq_true rfl) rfl ?_
    refine At_iload_n (pc' := 38) iX1_countOver_37 rfl rfl ?_
    refine At_iload_n (pc' := 39) iX1_countOver_38 rfl rfl ?_
    refine At_min (pc' := 42) iX1_countOver_39 rfl m_1_96 (Nat.le_of_ble_eq_true rfl) ?_
    refine At_istore (L' := [.ref a, .int x1, .int (r_X4_from x1), .int (r_X4_to x1), .int ((r_X6_get (gJ h a 0) (r_X4_from x1)) * (nI 16)), .int (nI 1), .int (if (r_X4_to x1) < (r_X4_from x1) then r_X4_to x1 else r_X4_from x1)]) (pc' := 44) iX1_countOver_42 rfl (Nat.le_of_ble_eq_true rfl) rfl ?_
    exact hv _
set_option maxRecDepth 20000 in
theorem b_X1_countOver_44 {d : Nat} {T : HT} (hL : Lay T) {h : Hp} (eT : h.2.2 = T) (a : Nat) (x2 : Int32) (x3 : Int32) (x4 : Int32) (x5 : Int32) (x6 : Int32) (hA : IsX1 T a) {Q : Option Value → Hp → Prop} (hv : (((if x2 < x3 then x3 else x2) < x6) → (Q none h)) ∧ (¬ ((if x2 < x3 then x3 else x2) < x6) → (((x6 = x2) → (L_X1_countOver_44 d a x2 x3 x4 x5 (x6 + nI 1) h Q)) ∧ (¬ (x6 = x2) → (((x5 = 0) → (((x6 = x3) → ((inB (x4 + (r_X6_get (gJ h a 0) x6)) 256 = true) ∧ ((inB (x4 + (r_X6_get (gJ h a 0) x6)) 256 = true) ∧ (L_X1_countOver_44 d a x2 x3 x4 x5 (x6 + nI 1) (sI h (a + 2) ((x4 + (r_X6_get (gJ h a 0) x6)).toNatClampNeg) ((gI h (a + 2) ((x4 + (r_X6_get (gJ h a 0) x6)).toNatClampNeg)) + (nI 1))) Q)))) ∧ (¬ (x6 = x3) → (L_X1_countOver_44 d a x2 x3 x4 x5 (x6 + nI 1) h Q)))) ∧ (¬ (x5 = 0) → ((inB (x4 + (r_X6_get (gJ h a 0) x6)) 256 = true) ∧ ((inB (x4 + (r_X6_get (gJ h a 0) x6)) 256 = true) ∧ (L_X1_countOver_44 d a x2 x3 x4 x5 (x6 + nI 1) (sI h (a + 2) ((x4 + (r_X6_get (gJ h a 0) x6)).toNatClampNeg) ((gI h (a + 2) ((x4 + (r_X6_get (gJ h a 0) x6)).toNatClampNeg)) + (nI 1))) Q))))))))) : L_X1_countOver_44 d a x2 x3 x4 x5 x6 h Q := by
  intro v1
  refine At_iload (pc' := 46) iX1_countOver_44 rfl rfl ?_
  refine At_iload_n (pc' := 47) iX1_countOver_46 rfl rfl ?_
  refine At_iload_n (pc' := 48) iX1_countOver_47 rfl rfl ?_
  refine At_max (pc' := 51) iX1_countOver_48 rfl m_1_102 (Nat.le_of_ble_eq_true rfl) ?_
  refine At_icmp_gt (t := 98) (pc' := 54) iX1_countOver_51 (by decide) rfl (fun c51 => ?_) (fun c51 => ?_)
  · have hv := hv.1 c51
    exact At_retV iX1_countOver_98 rfl hv
  · have hv := hv.2 c51
    refine At_iload (pc' := 56) iX1_countOver_54 rfl rfl ?_
    refine At_iload_n (pc' := 57) iX1_countOver_56 rfl rfl ?_
    refine At_icmp_eq (t := 92) (pc' := 60) iX1_countOver_57 (by decide) rfl (fun c57 => ?_) (fun c57 => ?_)
    · have hv := hv.1 c57
      refine At_iinc (v := nI 1) (L' := [.ref a, v1, .int x2, .int x3, .int x4, .int x5, .int (x6 + nI 1)]) (pc' := 95) iX1_countOver_92 rfl rfl (Nat.le_of_ble_eq_true rfl) (by decide) rfl ?_
      refine At_goto (t := 44) iX1_countOver_95 (by decide) ?_
      exact hv _
    · have hv := hv.2 c57
      refine At_iload (pc' := 62) iX1_countOver_60 rfl rfl ?_
      refine At_if_ne (t := 71) (pc' := 65) iX1_countOver_62 (by decide) rfl (fun c62 => ?_) (fun c62 => ?_)
      · have hv := hv.2 c62
        refine At_aload_n (pc' := 72) iX1_countOver_71 rfl rfl ?_
        refine At_getR (pc' := 75) iX1_countOver_72 rfl f_1_35 (kdK eT (X1_k0 hA)) (by decide) (rfH eT (X1_r5 hA)) ?_
        refine At_iload (pc' := 77) iX1_countOver_75 rfl rfl ?_
        refine At_aload_n (pc' := 78) iX1_countOver_77 rfl rfl ?_
        refine At_getJ (pc' := 81) iX1_countOver_78 rfl f_1_15 (kdK eT (X1_k0 hA)) (by decide) ?_
        refine At_iload (pc' := 83) iX1_countOver_81 rfl rfl ?_
        refine At_stat (pc' := 86) iX1_countOver_83 rfl m_1_82 rfl rfl (Nat.le_of_ble_eq_true rfl) (Nat.le_of_ble_eq_true rfl) (Nat.le_of_ble_eq_true rfl) ?_
        refine c_X6_get (h := h) (gJ h a 0) x6   (show At (d + 1) MX1_countOver 86 [.ref a, v1, .int x2, .int x3, .int x4, .int x5, .int x6] [.int (r_X6_get (gJ h a 0) x6), .int x4, .ref (a + 2)] h Q from ?_)
        refine At_iadd (pc' := 87) iX1_countOver_86 rfl ?_
        refine At_dup2 (pc' := 88) iX1_countOver_87 rfl rfl rfl ?_
        obtain ⟨hn1, hv⟩ := hv
        refine At_iald (pc' := 89) iX1_countOver_88 rfl (kdH eT (X1_k2 hA)) hn1 (show At (d + 1) MX1_countOver 89 [.ref a, v1, .int x2, .int x3, .int x4, .int x5, .int x6] [.int (gI h (a + 2) ((x4 + (r_X6_get (gJ h a 0) x6)).toNatClampNeg)), .int (x4 + (r_X6_get (gJ h a 0) x6)), .ref (a + 2)] h Q from ?_)
        refine At_iconst (v := nI 1) (pc' := 90) iX1_countOver_89 rfl (by decide) ?_
        refine At_iadd (pc' := 91) iX1_countOver_90 rfl ?_
        obtain ⟨hn2, hv⟩ := hv
        refine At_iast (pc' := 92) iX1_countOver_91 rfl (kdH eT (X1_k2 hA)) hn2 (show At (d + 1) MX1_countOver 92 [.ref a, v1, .int x2, .int x3, .int x4, .int x5, .int x6] [] (sI h (a + 2) ((x4 + (r_X6_get (gJ h a 0) x6)).toNatClampNeg) ((gI h (a + 2) ((x4 + (r_X6_get (gJ h a 0) x6)).toNatClampNeg)) + (nI 1))) Q from ?_)
        refine At_iinc (v := nI 1) (L' := [.ref a, v1, .int x2, .int x3, .int x4, .int x5, .int (x6 + nI 1)]) (pc' := 95) iX1_countOver_92 rfl rfl (Nat.le_of_ble_eq_true rfl) (by decide) rfl ?_
        refine At_goto (t := 44) iX1_countOver_95 (by decide) ?_
        exact hv _
      · have hv := hv.1 c62
        refine At_iload (pc' := 67) iX1_countOver_65 rfl rfl ?_
        refine At_iload_n (pc' := 68) iX1_countOver_67 rfl rfl ?_
        refine At_icmp_ne (t := 92) (pc' := 71) iX1_countOver_68 (by decide) rfl (fun c68 => ?_) (fun c68 => ?_)
        · have hv := hv.2 c68
          refine At_iinc (v := nI 1) (L' := [.ref a, v1, .int x2, .int x3, .int x4, .int x5, .int (x6 + nI 1)]) (pc' := 95) iX1_countOver_92 rfl rfl (Nat.le_of_ble_eq_true rfl) (by decide) rfl ?_
          refine At_goto (t := 44) iX1_countOver_95 (by decide) ?_
          exact hv _
        · have hv := hv.1 c68
          refine At_aload_n (pc' := 72) iX1_countOver_71 rfl rfl ?_
          refine At_getR (pc' := 75) iX1_countOver_72 rfl f_1_35 (kdK eT (X1_k0 hA)) (by decide) (rfH eT (X1_r5 hA)) ?_
          refine At_iload (pc' := 77) iX1_countOver_75 rfl rfl ?_
          refine At_aload_n (pc' := 78) iX1_countOver_77 rfl rfl ?_
          refine At_getJ (pc' := 81) iX1_countOver_78 rfl f_1_15 (kdK eT (X1_k0 hA)) (by decide) ?_
          refine At_iload (pc' := 83) iX1_countOver_81 rfl rfl ?_
          refine At_stat (pc' := 86) iX1_countOver_83 rfl m_1_82 rfl rfl (Nat.le_of_ble_eq_true rfl) (Nat.le_of_ble_eq_true rfl) (Nat.le_of_ble_eq_true rfl) ?_
          refine c_X6_get (h := h) (gJ h a 0) x6   (show At (d + 1) MX1_countOver 86 [.ref a, v1, .int x2, .int x3, .int x4, .int x5, .int x6] [.int (r_X6_get (gJ h a 0) x6), .int x4, .ref (a + 2)] h Q from ?_)
          refine At_iadd (pc' := 87) iX1_countOver_86 rfl ?_
          refine At_dup2 (pc' := 88) iX1_countOver_87 rfl rfl rfl ?_
          obtain ⟨hn3, hv⟩ := hv
          refine At_iald (pc' := 89) iX1_countOver_88 rfl (kdH eT (X1_k2 hA)) hn3 (show At (d + 1) MX1_countOver 89 [.ref a, v1, .int x2, .int x3, .int x4, .int x5, .int x6] [.int (gI h (a + 2) ((x4 + (r_X6_get (gJ h a 0) x6)).toNatClampNeg)), .int (x4 + (r_X6_get (gJ h a 0) x6)), .ref (a + 2)] h Q from ?_)
          refine At_iconst (v := nI 1) (pc' := 90) iX1_countOver_89 rfl (by decide) ?_
          refine At_iadd (pc' := 91) iX1_countOver_90 rfl ?_
          obtain ⟨hn4, hv⟩ := hv
          refine At_iast (pc' := 92) iX1_countOver_91 rfl (kdH eT (X1_k2 hA)) hn4 (show At (d + 1) MX1_countOver 92 [.ref a, v1, .int x2, .int x3, .int x4, .int x5, .int x6] [] (sI h (a + 2) ((x4 + (r_X6_get (gJ h a 0) x6)).toNatClampNeg) ((gI h (a + 2) ((x4 + (r_X6_get (gJ h a 0) x6)).toNatClampNeg)) + (nI 1))) Q from ?_)
          refine At_iinc (v := nI 1) (L' := [.ref a, v1, .int x2, .int x3, .int x4, .int x5, .int (x6 + nI 1)]) (pc' := 95) iX1_countOver_92 rfl rfl (Nat.le_of_ble_eq_true rfl) (by decide) rfl ?_
          refine At_goto (t := 44) iX1_countOver_95 (by decide) ?_
          exact hv _
-- X1_isCovered (loop)
def L_X1_isCovered_3 (d : Nat) (a : Nat) (x1 : Int32) (x2 : Int32) (x3 : Int32) (x4 : Int32) (h : Hp) (Q : Option Value → Hp → Prop) : Prop := At (d + 1) MX1_isCovered 3 [.ref a, .int x1, .int x2, .int x3, .int x4] [] h Q
set_option maxRecDepth 20000 in
theorem b_X1_isCovered {d : Nat} {T : HT} (hL : Lay T) {h : Hp} (eT : h.2.2 = T) (a : Nat) (x1 : Int32) (x2 : Int32) (x3 : Int32) (hA : IsX1 T a) {Q : Option Value → Hp → Prop} (hv : L_X1_isCovered_3 d a x1 x2 x3 (nI 0) h Q) : Call (d + 1) MX1_isCovered [.ref a, .int x1, .int x2, .int x3] h Q := by
  show At (d + 1) MX1_isCovered 0 [.ref a, .int x1, .int x2, .int x3, un] [] h Q
  refine At_iconst (v := nI 0) (pc' := 1) iX1_isCovered_0 rfl (by decide) ?_
  refine At_istore (L' := [.ref a, .int x1, .int x2, .int x3, .int (nI 0)]) (pc' := 3) iX1_isCovered_1 rfl (Nat.le_of_ble_eq_true rfl) rfl ?_
  exact hv
set_option maxRecDepth 20000 in
theorem b_X1_isCovered_3 {d : Nat} {T : HT} (hL : Lay T) {h : Hp} (eT : h.2.2 = T) (a : Nat) (x1 : Int32) (x2 : Int32) (x3 : Int32) (x4 : Int32) (hA : IsX1 T a) {Q : Option Value → Hp → Prop} (hv : ((x4 < x3) → ((((x2 &&& ((nI 1) <<< (x4 &&& 31))) = 0) → (L_X1_isCovered_3 d a x1 x2 x3 (x4 + nI 1) h Q)) ∧ (¬ ((x2 &&& ((nI 1) <<< (x4 &&& 31))) = 0) → ((p_X1_timesOver a x4 x1 h) ∧ (((0 < (r_X1_timesOver a x4 x1 h)) → (Q (some (.int (b2i true))) h)) ∧ (¬ (0 < (r_X1_timesOver a x4 x1 h)) → (L_X1_isCovered_3 d a x1 x2 x3 (x4 + nI 1) h Q))))))) ∧ (¬ (x4 < x3) → (Q (some (.int (b2i false))) h))) : L_X1_isCovered_3 d a x1 x2 x3 x4 h Q := by
  refine At_iload (pc' := 5) iX1_isCovered_3 rfl rfl ?_
  refine At_iload_n (pc' := 6) iX1_isCovered_5 rfl rfl ?_
  refine At_icmp_ge (t := 36) (pc' := 9) iX1_isCovered_6 (by decide) rfl (fun c6 => ?_) (fun c6 => ?_)
  · have hv := hv.2 c6
    refine At_iconst (v := nI 0) (pc' := 37) iX1_isCovered_36 rfl (by decide) ?_
    exact At_retF iX1_isCovered_37 rfl hv
  · have hv := hv.1 c6
    refine At_iload_n (pc' := 10) iX1_isCovered_9 rfl rfl ?_
    refine At_iconst (v := nI 1) (pc' := 11) iX1_isCovered_10 rfl (by decide) ?_
    refine At_iload (pc' := 13) iX1_isCovered_11 rfl rfl ?_
    refine At_ishl (pc' := 14) iX1_isCovered_13 rfl ?_
    refine At_iand (pc' := 15) iX1_isCovered_14 rfl ?_
    refine At_if_eq (t := 30) (pc' := 18) iX1_isCovered_15 (by decide) rfl (fun c15 => ?_) (fun c15 => ?_)
    · have hv := hv.1 c15
      refine At_iinc (v := nI 1) (L' := [.ref a, .int x1, .int x2, .int x3, .int (x4 + nI 1)]) (pc' := 33) iX1_isCovered_30 rfl rfl (Nat.le_of_ble_eq_true rfl) (by decide) rfl ?_
      refine At_goto (t := 3) iX1_isCovered_33 (by decide) ?_
      exact hv
    · have hv := hv.2 c15
      refine At_aload_n (pc' := 19) iX1_isCovered_18 rfl rfl ?_
      refine At_iload (pc' := 21) iX1_isCovered_19 rfl rfl ?_
      refine At_iload_n (pc' := 22) iX1_isCovered_21 rfl rfl ?_
      refine At_virt (pc' := 25) iX1_isCovered_22 rfl m_1_109 rfl rfl (kdK eT (X1_k0 hA)) (Nat.le_of_ble_eq_true rfl) (Nat.le_of_ble_eq_true rfl) ?_
      obtain ⟨hn1, hv⟩ := hv
      refine c_X1_timesOver (h := h) hL eT a x4 x1 hA hn1 (show At (d + 1) MX1_isCovered 25 [.ref a, .int x1, .int x2, .int x3, .int x4] [.int (r_X1_timesOver a x4 x1 h)] h Q from ?_)
      refine At_if_le (t := 30) (pc' := 28) iX1_isCovered_25 (by decide) rfl (fun c25 => ?_) (fun c25 => ?_)
      · have hv := hv.2 c25
        refine At_iinc (v := nI 1) (L' := [.ref a, .int x1, .int x2, .int x3, .int (x4 + nI 1)]) (pc' := 33) iX1_isCovered_30 rfl rfl (Nat.le_of_ble_eq_true rfl) (by decide) rfl ?_
        refine At_goto (t := 3) iX1_isCovered_33 (by decide) ?_
        exact hv
      · have hv := hv.1 c25
        refine At_iconst (v := nI 1) (pc' := 29) iX1_isCovered_28 rfl (by decide) ?_
        exact At_retT iX1_isCovered_29 rfl hv
-- X2_goBack (ex)
set_option maxRecDepth 20000 in
theorem b_X2_goBack {d : Nat} {T : HT} (hL : Lay T) {h : Hp} (eT : h.2.2 = T) (x1 : Nat) (hA1 : IsX1 T x1) {Q : Option Value → Hp → Prop} (hv : (((gI h 28 0) = 0) → (Q (some (.int (b2i false))) h)) ∧ (¬ ((gI h 28 0) = 0) → (∃ k34 : Nat, (gI (sI h 28 1 (irem (((gI h 28 1) + (nI 6)) - (nI 1)) (nI 6))) 28 1) = nI k34 ∧ k34 < 6 ∧ (Q (some (.int (b2i true))) (sI (w_X1_copy x1 (30 + 3 * k34) (sI h 28 1 (irem (((gI h 28 1) + (nI 6)) - (nI 1)) (nI 6)))) 28 0 ((gI (w_X1_copy x1 (30 + 3 * k34) (sI h 28 1 (irem (((gI h 28 1) + (nI 6)) - (nI 1)) (nI 6)))) 28 0) - (nI 1))))))) : Call (d + 1) MX2_goBack [.ref 28, .ref x1] h Q := by
  show At (d + 1) MX2_goBack 0 [.ref 28, .ref x1] [] h Q
  refine At_aload_n (pc' := 1) iX2_goBack_0 rfl rfl ?_
  refine At_getI (pc' := 4) iX2_goBack_1 rfl f_2_9 (kdK eT (kd_28 hL)) (by decide) ?_
  refine At_if_ne (t := 9) (pc' := 7) iX2_goBack_4 (by decide) rfl (fun c4 => ?_) (fun c4 => ?_)
  · have hv := hv.2 c4
    refine At_aload_n (pc' := 10) iX2_goBack_9 rfl rfl ?_
    refine At_aload_n (pc' := 11) iX2_goBack_10 rfl rfl ?_
    refine At_getI (pc' := 14) iX2_goBack_11 rfl f_2_15 (kdK eT (kd_28 hL)) (by decide) ?_
    refine At_bipush (v := nI 6) (pc' := 16) iX2_goBack_14 rfl (by decide) ?_
    refine At_iadd (pc' := 17) iX2_goBack_16 rfl ?_
    refine At_iconst (v := nI 1) (pc' := 18) iX2_goBack_17 rfl (by decide) ?_
    refine At_isub (pc' := 19) iX2_goBack_18 rfl ?_
    refine At_bipush (v := nI 6) (pc' := 21) iX2_goBack_19 rfl (by decide) ?_
    refine At_irem (pc' := 22) iX2_goBack_21 rfl (by decide) ?_
    refine At_putI (pc' := 25) iX2_goBack_22 rfl f_2_15 (kdK eT (kd_28 hL)) (Or.inl rfl) (by decide) ?_
    refine At_aload_n (pc' := 26) iX2_goBack_25 rfl rfl ?_
    refine At_aload_n (pc' := 27) iX2_goBack_26 rfl rfl ?_
    refine At_getR (pc' := 30) iX2_goBack_27 rfl f_2_20 (kdK eT (kd_28 hL)) (by decide) (rfH eT (rf_28_2 hL)) ?_
    refine At_aload_n (pc' := 31) iX2_goBack_30 rfl rfl ?_
    refine At_getI (pc' := 34) iX2_goBack_31 rfl f_2_15 (kdK eT (kd_28 hL)) (by decide) ?_
    obtain ⟨k34, e34, hk34, hv⟩ := hv
    refine At_aald (b := (30 + 3 * k34)) (pc' := 35) iX2_goBack_34 rfl (kdH eT (kd_29 hL)) (by decide) (by rw [e34]; exact inB_nI hk34 (by decide)) (by rw [e34, nI_clamp (by omega)]; exact rfH eT (rf_hist hL hk34)) ?_
    refine At_virt (pc' := 38) iX2_goBack_35 rfl m_2_25 rfl rfl (kdK eT (X1_k0 hA1)) (Nat.le_of_ble_eq_true rfl) (Nat.le_of_ble_eq_true rfl) ?_
    refine c_X1_copy (h := sI h 28 1 (irem (((gI h 28 1) + (nI 6)) - (nI 1)) (nI 6))) hL eT x1 (30 + 3 * k34) hA1 (isX1_hist hL hk34)  (show At (d + 1) MX2_goBack 38 [.ref 28, .ref x1] [] (w_X1_copy x1 (30 + 3 * k34) (sI h 28 1 (irem (((gI h 28 1) + (nI 6)) - (nI 1)) (nI 6)))) Q from ?_)
    refine At_aload_n (pc' := 39) iX2_goBack_38 rfl rfl ?_
    refine At_dup (pc' := 40) iX2_goBack_39 rfl rfl ?_
    refine At_getI (pc' := 43) iX2_goBack_40 rfl f_2_9 (kdK ((wT_X1_copy x1 (30 + 3 * k34) (sI h 28 1 (irem (((gI h 28 1) + (nI 6)) - (nI 1)) (nI 6)))).trans eT) (kd_28 hL)) (by decide) ?_
    refine At_iconst (v := nI 1) (pc' := 44) iX2_goBack_43 rfl (by decide) ?_
    refine At_isub (pc' := 45) iX2_goBack_44 rfl ?_
    refine At_putI (pc' := 48) iX2_goBack_45 rfl f_2_9 (kdK ((wT_X1_copy x1 (30 + 3 * k34) (sI h 28 1 (irem (((gI h 28 1) + (nI 6)) - (nI 1)) (nI 6)))).trans eT) (kd_28 hL)) (Or.inl rfl) (by decide) ?_
    refine At_iconst (v := nI 1) (pc' := 49) iX2_goBack_48 rfl (by decide) ?_
    exact At_retT iX2_goBack_49 rfl hv
  · have hv := hv.1 c4
    refine At_iconst (v := nI 0) (pc' := 8) iX2_goBack_7 rfl (by decide) ?_
    exact At_retF iX2_goBack_8 rfl hv
-- X2_remember (ex)
set_option maxRecDepth 20000 in
theorem b_X2_remember {d : Nat} {T : HT} (hL : Lay T) {h : Hp} (eT : h.2.2 = T) (x1 : Nat) (hA1 : IsX1 T x1) {Q : Option Value → Hp → Prop} (hv : ∃ k8 : Nat, (gI h 28 1) = nI k8 ∧ k8 < 6 ∧ (Q none (sI (sI (w_X1_copy (30 + 3 * k8) x1 h) 28 1 (irem ((gI (w_X1_copy (30 + 3 * k8) x1 h) 28 1) + (nI 1)) (nI 6))) 28 0 (if (nI 6) < ((gI (sI (w_X1_copy (30 + 3 * k8) x1 h) 28 1 (irem ((gI (w_X1_copy (30 + 3 * k8) x1 h) 28 1) + (nI 1)) (nI 6))) 28 0) + (nI 1)) then nI 6 else (gI (sI (w_X1_copy (30 + 3 * k8) x1 h) 28 1 (irem ((gI (w_X1_copy (30 + 3 * k8) x1 h) 28 1) + (nI 1)) (nI 6))) 28 0) + (nI 1))))) : Call (d + 1) MX2_remember [.ref 28, .ref x1] h Q := by
  show At (d + 1) MX2_remember 0 [.ref 28, .ref x1] [] h Q
  refine At_aload_n (pc' := 1) iX2_remember_0 rfl rfl ?_
  refine At_getR (pc' := 4) iX2_remember_1 rfl f_2_20 (kdK eT (kd_28 hL)) (by decide) (rfH eT (rf_28_2 hL)) ?_
  refine At_aload_n (pc' := 5) iX2_remember_4 rfl rfl ?_
  refine At_getI (pc' := 8) iX2_remember_5 rfl f_2_15 (kdK eT (kd_28 hL)) (by decide) ?_
  obtain ⟨k8, e8, hk8, hv⟩ := hv
  refine At_aald (b := (30 + 3 * k8)) (pc' := 9) iX2_remember_8 rfl (kdH eT (kd_29 hL)) (by decide) (by rw [e8]; exact inB_nI hk8 (by decide)) (by rw [e8, nI_clamp (by omega)]; exact rfH eT (rf_hist hL hk8)) ?_
  refine At_aload_n (pc' := 10) iX2_remember_9 rfl rfl ?_
  refine At_virt (pc' := 13) iX2_remember_10 rfl m_2_25 rfl rfl (kdK eT (X1_k0 (isX1_hist hL hk8))) (Nat.le_of_ble_eq_true rfl) (Nat.le_of_ble_eq_true rfl) ?_
  refine c_X1_copy (h := h) hL eT (30 + 3 * k8) x1 (isX1_hist hL hk8) hA1  (show At (d + 1) MX2_remember 13 [.ref 28, .ref x1] [] (w_X1_copy (30 + 3 * k8) x1 h) Q from ?_)
  refine At_aload_n (pc' := 14) iX2_remember_13 rfl rfl ?_
  refine At_aload_n (pc' := 15) iX2_remember_14 rfl rfl ?_
  refine At_getI (pc' := 18) iX2_remember_15 rfl f_2_15 (kdK ((wT_X1_copy (30 + 3 * k8) x1 h).trans eT) (kd_28 hL)) (by decide) ?_
  refine At_iconst (v := nI 1) (pc' := 19) iX2_remember_18 rfl (by decide) ?_
  refine At_iadd (pc' := 20) iX2_remember_19 rfl ?_
  refine At_bipush (v := nI 6) (pc' := 22) iX2_remember_20 rfl (by decide) ?_
  refine At_irem (pc' := 23) iX2_remember_22 rfl (by decide) ?_
  refine At_putI (pc' := 26) iX2_remember_23 rfl f_2_15 (kdK ((wT_X1_copy (30 + 3 * k8) x1 h).trans eT) (kd_28 hL)) (Or.inl rfl) (by decide) ?_
  refine At_aload_n (pc' := 27) iX2_remember_26 rfl rfl ?_
  refine At_aload_n (pc' := 28) iX2_remember_27 rfl rfl ?_
  refine At_getI (pc' := 31) iX2_remember_28 rfl f_2_9 (kdK ((wT_X1_copy (30 + 3 * k8) x1 h).trans eT) (kd_28 hL)) (by decide) ?_
  refine At_iconst (v := nI 1) (pc' := 32) iX2_remember_31 rfl (by decide) ?_
  refine At_iadd (pc' := 33) iX2_remember_32 rfl ?_
  refine At_bipush (v := nI 6) (pc' := 35) iX2_remember_33 rfl (by decide) ?_
  refine At_min (pc' := 38) iX2_remember_35 rfl m_2_29 (Nat.le_of_ble_eq_true rfl) ?_
  refine At_putI (pc' := 41) iX2_remember_38 rfl f_2_9 (kdK ((wT_X1_copy (30 + 3 * k8) x1 h).trans eT) (kd_28 hL)) (Or.inl rfl) (by decide) ?_
  exact At_retV iX2_remember_41 rfl hv
-- X3_countOf (loop)
def L_X3_countOf_6 (d : Nat) (x0 : Int32) (x1 : Int64) (x3 : Int32) (x4 : Int32) (x5 : Int32) (h : Hp) (Q : Option Value → Hp → Prop) : Prop := At (d + 1) MX3_countOf 6 [.int x0, .long x1, un, .int x3, .int x4, .int x5] [] h Q
set_option maxRecDepth 20000 in
theorem b_X3_countOf {d : Nat} {T : HT} (hL : Lay T) {h : Hp} (eT : h.2.2 = T) (x0 : Int32) (x1 : Int64) (x3 : Int32)  {Q : Option Value → Hp → Prop} (hv : L_X3_countOf_6 d x0 x1 x3 (nI 0) (nI 0) h Q) : Call (d + 1) MX3_countOf [.int x0, .long x1, .int x3] h Q := by
  show At (d + 1) MX3_countOf 0 [.int x0, .long x1, un, .int x3, un, un] [] h Q
  refine At_iconst (v := nI 0) (pc' := 1) iX3_countOf_0 rfl (by decide) ?_
  refine At_istore (L' := [.int x0, .long x1, un, .int x3, .int (nI 0), un]) (pc' := 3) iX3_countOf_1 rfl (Nat.le_of_ble_eq_true rfl) rfl ?_
  refine At_iconst (v := nI 0) (pc' := 4) iX3_countOf_3 rfl (by decide) ?_
  refine At_istore (L' := [.int x0, .long x1, un, .int x3, .int (nI 0), .int (nI 0)]) (pc' := 6) iX3_countOf_4 rfl (Nat.le_of_ble_eq_true rfl) rfl ?_
  exact hv
set_option maxRecDepth 20000 in
theorem b_X3_countOf_6 {d : Nat} {T : HT} (hL : Lay T) {h : Hp} (eT : h.2.2 = T) (x0 : Int32) (x1 : Int64) (x3 : Int32) (x4 : Int32) (x5 : Int32)  {Q : Option Value → Hp → Prop} (hv : ((x5 < x3) → ((((r_X6_get x1 x5) = x0) → (L_X3_countOf_6 d x0 x1 x3 (x4 + nI 1) (x5 + nI 1) h Q)) ∧ (¬ ((r_X6_get x1 x5) = x0) → (L_X3_countOf_6 d x0 x1 x3 x4 (x5 + nI 1) h Q)))) ∧ (¬ (x5 < x3) → (Q (some (.int x4)) h))) : L_X3_countOf_6 d x0 x1 x3 x4 x5 h Q := by
  refine At_iload (pc' := 8) iX3_countOf_6 rfl rfl ?_
  refine At_iload_n (pc' := 9) iX3_countOf_8 rfl rfl ?_
  refine At_icmp_ge (t := 31) (pc' := 12) iX3_countOf_9 (by decide) rfl (fun c9 => ?_) (fun c9 => ?_)
  · have hv := hv.2 c9
    refine At_iload (pc' := 33) iX3_countOf_31 rfl rfl ?_
    exact At_retI iX3_countOf_33 rfl hv
  · have hv := hv.1 c9
    refine At_lload_n (pc' := 13) iX3_countOf_12 rfl rfl ?_
    refine At_iload (pc' := 15) iX3_countOf_13 rfl rfl ?_
    refine At_stat (pc' := 18) iX3_countOf_15 rfl m_3_42 rfl rfl (Nat.le_of_ble_eq_true rfl) (Nat.le_of_ble_eq_true rfl) (Nat.le_of_ble_eq_true rfl) ?_
    refine c_X6_get (h := h) x1 x5   (show At (d + 1) MX3_countOf 18 [.int x0, .long x1, un, .int x3, .int x4, .int x5] [.int (r_X6_get x1 x5)] h Q from ?_)
    refine At_iload_n (pc' := 19) iX3_countOf_18 rfl rfl ?_
    refine At_icmp_ne (t := 25) (pc' := 22) iX3_countOf_19 (by decide) rfl (fun c19 => ?_) (fun c19 => ?_)
    · have hv := hv.2 c19
      refine At_iinc (v := nI 1) (L' := [.int x0, .long x1, un, .int x3, .int x4, .int (x5 + nI 1)]) (pc' := 28) iX3_countOf_25 rfl rfl (Nat.le_of_ble_eq_true rfl) (by decide) rfl ?_
      refine At_goto (t := 6) iX3_countOf_28 (by decide) ?_
      exact hv
    · have hv := hv.1 c19
      refine At_iinc (v := nI 1) (L' := [.int x0, .long x1, un, .int x3, .int (x4 + nI 1), .int x5]) (pc' := 25) iX3_countOf_22 rfl rfl (Nat.le_of_ble_eq_true rfl) (by decide) rfl ?_
      refine At_iinc (v := nI 1) (L' := [.int x0, .long x1, un, .int x3, .int (x4 + nI 1), .int (x5 + nI 1)]) (pc' := 28) iX3_countOf_25 rfl rfl (Nat.le_of_ble_eq_true rfl) (by decide) rfl ?_
      refine At_goto (t := 6) iX3_countOf_28 (by decide) ?_
      exact hv
-- X3_longestCommon (loop)
def L_X3_longestCommon_3 (d : Nat) (x1 : Int64) (x3 : Int64) (x5 : Int32) (x6 : Int32) (h : Hp) (Q : Option Value → Hp → Prop) : Prop := ∀ v7 v8 : Value, At (d + 1) MX3_longestCommon 3 [.ref 48, .long x1, un, .long x3, un, .int x5, .int x6, v7, v8] [] h Q
def L_X3_longestCommon_13 (d : Nat) (x1 : Int64) (x3 : Int64) (x5 : Int32) (x6 : Int32) (x7 : Int32) (h : Hp) (Q : Option Value → Hp → Prop) : Prop := ∀ v8 : Value, At (d + 1) MX3_longestCommon 13 [.ref 48, .long x1, un, .long x3, un, .int x5, .int x6, .int x7, v8] [] h Q
set_option maxRecDepth 20000 in
theorem b_X3_longestCommon {d : Nat} {T : HT} (hL : Lay T) {h : Hp} (eT : h.2.2 = T) (x1 : Int64) (x3 : Int64) (x5 : Int32)  {Q : Option Value → Hp → Prop} (hv : L_X3_longestCommon_3 d x1 x3 x5 (nI 1) h Q) : Call (d + 1) MX3_longestCommon [.ref 48, .long x1, .long x3, .int x5] h Q := by
  show At (d + 1) MX3_longestCommon 0 [.ref 48, .long x1, un, .long x3, un, .int x5, un, un, un] [] h Q
  refine At_iconst (v := nI 1) (pc' := 1) iX3_longestCommon_0 rfl (by decide) ?_
  refine At_istore (L' := [.ref 48, .long x1, un, .long x3, un, .int x5, .int (nI 1), un, un]) (pc' := 3) iX3_longestCommon_1 rfl (Nat.le_of_ble_eq_true rfl) rfl ?_
  exact hv _ _
set_option maxRecDepth 20000 in
theorem b_X3_longestCommon_3 {d : Nat} {T : HT} (hL : Lay T) {h : Hp} (eT : h.2.2 = T) (x1 : Int64) (x3 : Int64) (x5 : Int32) (x6 : Int32)  {Q : Option Value → Hp → Prop} (hv : ((x5 < x6) → ((inB ((x5 * (nI 8)) + x5) 64 = true) ∧ (Q (some (.int (gI h 49 (((x5 * (nI 8)) + x5).toNatClampNeg)))) h))) ∧ (¬ (x5 < x6) → (L_X3_longestCommon_13 d x1 x3 x5 x6 (nI 1) h Q))) : L_X3_longestCommon_3 d x1 x3 x5 x6 h Q := by
  intro v7 v8
  refine At_iload (pc' := 5) iX3_longestCommon_3 rfl rfl ?_
  refine At_iload (pc' := 7) iX3_longestCommon_5 rfl rfl ?_
  refine At_icmp_gt (t := 107) (pc' := 10) iX3_longestCommon_7 (by decide) rfl (fun c7 => ?_) (fun c7 => ?_)
  · have hv := hv.1 c7
    refine At_aload_n (pc' := 108) iX3_longestCommon_107 rfl rfl ?_
    refine At_getR (pc' := 111) iX3_longestCommon_108 rfl f_3_11 (kdK eT (kd_48 hL)) (by decide) (rfH eT (rf_48_0 hL)) ?_
    refine At_iload (pc' := 113) iX3_longestCommon_111 rfl rfl ?_
    refine At_bipush (v := nI 8) (pc' := 115) iX3_longestCommon_113 rfl (by decide) ?_
    refine At_imul (pc' := 116) iX3_longestCommon_115 rfl ?_
    refine At_iload (pc' := 118) iX3_longestCommon_116 rfl rfl ?_
    refine At_iadd (pc' := 119) iX3_longestCommon_118 rfl ?_
    obtain ⟨hn1, hv⟩ := hv
    refine At_iald (pc' := 120) iX3_longestCommon_119 rfl (kdH eT (kd_49 hL)) hn1 (show At (d + 1) MX3_longestCommon 120 [.ref 48, .long x1, un, .long x3, un, .int x5, .int x6, v7, v8] [.int (gI h 49 (((x5 * (nI 8)) + x5).toNatClampNeg))] h Q from ?_)
    exact At_retI iX3_longestCommon_120 rfl hv
  · have hv := hv.2 c7
    refine At_iconst (v := nI 1) (pc' := 11) iX3_longestCommon_10 rfl (by decide) ?_
    refine At_istore (L' := [.ref 48, .long x1, un, .long x3, un, .int x5, .int x6, .int (nI 1), v8]) (pc' := 13) iX3_longestCommon_11 rfl (Nat.le_of_ble_eq_true rfl) rfl ?_
    exact hv _
set_option maxRecDepth 20000 in
theorem b_X3_longestCommon_13 {d : Nat} {T : HT} (hL : Lay T) {h : Hp} (eT : h.2.2 = T) (x1 : Int64) (x3 : Int64) (x5 : Int32) (x6 : Int32) (x7 : Int32)  {Q : Option Value → Hp → Prop} (hv : ((x5 < x7) → (L_X3_longestCommon_3 d x1 x3 x5 (x6 + nI 1) h Q)) ∧ (¬ (x5 < x7) → ((((r_X6_get x1 (x6 - (nI 1))) = (r_X6_get x3 (x7 - (nI 1)))) → ((inB ((((x6 * (nI 8)) + x7) - (nI 8)) - (nI 1)) 64 = true) ∧ ((inB ((x6 * (nI 8)) + x7) 64 = true) ∧ (L_X3_longestCommon_13 d x1 x3 x5 x6 (x7 + nI 1) (sI h 49 (((x6 * (nI 8)) + x7).toNatClampNeg) ((gI h 49 (((((x6 * (nI 8)) + x7) - (nI 8)) - (nI 1)).toNatClampNeg)) + (nI 1))) Q)))) ∧ (¬ ((r_X6_get x1 (x6 - (nI 1))) = (r_X6_get x3 (x7 - (nI 1)))) → ((inB (((x6 * (nI 8)) + x7) - (nI 8)) 64 = true) ∧ ((inB (((x6 * (nI 8)) + x7) - (nI 1)) 64 = true) ∧ ((inB ((x6 * (nI 8)) + x7) 64 = true) ∧ (L_X3_longestCommon_13 d x1 x3 x5 x6 (x7 + nI 1) (sI h 49 (((x6 * (nI 8)) + x7).toNatClampNeg) (if (gI h 49 ((((x6 * (nI 8)) + x7) - (nI 8)).toNatClampNeg)) < (gI h 49 ((((x6 * (nI 8)) + x7) - (nI 1)).toNatClampNeg)) then gI h 49 ((((x6 * (nI 8)) + x7) - (nI 1)).toNatClampNeg) else gI h 49 ((((x6 * (nI 8)) + x7) - (nI 8)).toNatClampNeg))) Q)))))))) : L_X3_longestCommon_13 d x1 x3 x5 x6 x7 h Q := by
  intro v8
  refine At_iload (pc' := 15) iX3_longestCommon_13 rfl rfl ?_
  refine At_iload (pc' := 17) iX3_longestCommon_15 rfl rfl ?_
  refine At_icmp_gt (t := 101) (pc' := 20) iX3_longestCommon_17 (by decide) rfl (fun c17 => ?_) (fun c17 => ?_)
  · have hv := hv.1 c17
    refine At_iinc (v := nI 1) (L' := [.ref 48, .long x1, un, .long x3, un, .int x5, .int (x6 + nI 1), .int x7, v8]) (pc' := 104) iX3_longestCommon_101 rfl rfl (Nat.le_of_ble_eq_true rfl) (by decide) rfl ?_
    refine At_goto (t := 3) iX3_longestCommon_104 (by decide) ?_
    exact hv _ _
  · have hv := hv.2 c17
    refine At_iload (pc' := 22) iX3_longestCommon_20 rfl rfl ?_
    refine At_bipush (v := nI 8) (pc' := 24) iX3_longestCommon_22 rfl (by decide) ?_
    refine At_imul (pc' := 25) iX3_longestCommon_24 rfl ?_
    refine At_iload (pc' := 27) iX3_longestCommon_25 rfl rfl ?_
    refine At_iadd (pc' := 28) iX3_longestCommon_27 rfl ?_
    refine At_istore (L' := [.ref 48, .long x1, un, .long x3, un, .int x5, .int x6, .int x7, .int ((x6 * (nI 8)) + x7)]) (pc' := 30) iX3_longestCommon_28 rfl (Nat.le_of_ble_eq_true rfl) rfl ?_
    refine At_aload_n (pc' := 31) iX3_longestCommon_30 rfl rfl ?_
    refine At_getR (pc' := 34) iX3_longestCommon_31 rfl f_3_11 (kdK eT (kd_48 hL)) (by decide) (rfH eT (rf_48_0 hL)) ?_
    refine At_iload (pc' := 36) iX3_longestCommon_34 rfl rfl ?_
    refine At_lload_n (pc' := 37) iX3_longestCommon_36 rfl rfl ?_
    refine At_iload (pc' := 39) iX3_longestCommon_37 rfl rfl ?_
    refine At_iconst (v := nI 1) (pc' := 40) iX3_longestCommon_39 rfl (by decide) ?_
    refine At_isub (pc' := 41) iX3_longestCommon_40 rfl ?_
    refine At_stat (pc' := 44) iX3_longestCommon_41 rfl m_3_42 rfl rfl (Nat.le_of_ble_eq_true rfl) (Nat.le_of_ble_eq_true rfl) (Nat.le_of_ble_eq_true rfl) ?_
    refine c_X6_get (h := h) x1 (x6 - (nI 1))   (show At (d + 1) MX3_longestCommon 44 [.ref 48, .long x1, un, .long x3, un, .int x5, .int x6, .int x7, .int ((x6 * (nI 8)) + x7)] [.int (r_X6_get x1 (x6 - (nI 1))), .int ((x6 * (nI 8)) + x7), .ref 49] h Q from ?_)
    refine At_lload_n (pc' := 45) iX3_longestCommon_44 rfl rfl ?_
    refine At_iload (pc' := 47) iX3_longestCommon_45 rfl rfl ?_
    refine At_iconst (v := nI 1) (pc' := 48) iX3_longestCommon_47 rfl (by decide) ?_
    refine At_isub (pc' := 49) iX3_longestCommon_48 rfl ?_
    refine At_stat (pc' := 52) iX3_longestCommon_49 rfl m_3_42 rfl rfl (Nat.le_of_ble_eq_true rfl) (Nat.le_of_ble_eq_true rfl) (Nat.le_of_ble_eq_true rfl) ?_
    refine c_X6_get (h := h) x3 (x7 - (nI 1))   (show At (d + 1) MX3_longestCommon 52 [.ref 48, .long x1, un, .long x3, un, .int x5, .int x6, .int x7, .int ((x6 * (nI 8)) + x7)] [.int (r_X6_get x3 (x7 - (nI 1))), .int (r_X6_get x1 (x6 - (nI 1))), .int ((x6 * (nI 8)) + x7), .ref 49] h Q from ?_)
    refine At_icmp_ne (t := 72) (pc' := 55) iX3_longestCommon_52 (by decide) rfl (fun c52 => ?_) (fun c52 => ?_)
    · have hv := hv.2 c52
      refine At_aload_n (pc' := 73) iX3_longestCommon_72 rfl rfl ?_
      refine At_getR (pc' := 76) iX3_longestCommon_73 rfl f_3_11 (kdK eT (kd_48 hL)) (by decide) (rfH eT (rf_48_0 hL)) ?_
      refine At_iload (pc' := 78) iX3_longestCommon_76 rfl rfl ?_
      refine At_bipush (v := nI 8) (pc' := 80) iX3_longestCommon_78 rfl (by decide) ?_
      refine At_isub (pc' := 81) iX3_longestCommon_80 rfl ?_
      obtain ⟨hn1, hv⟩ := hv
      refine At_iald (pc' := 82) iX3_longestCommon_81 rfl (kdH eT (kd_49 hL)) hn1 (show At (d + 1) MX3_longestCommon 82 [.ref 48, .long x1, un, .long x3, un, .int x5, .int x6, .int x7, .int ((x6 * (nI 8)) + x7)] [.int (gI h 49 ((((x6 * (nI 8)) + x7) - (nI 8)).toNatClampNeg)), .int ((x6 * (nI 8)) + x7), .ref 49] h Q from ?_)
      refine At_aload_n (pc' := 83) iX3_longestCommon_82 rfl rfl ?_
      refine At_getR (pc' := 86) iX3_longestCommon_83 rfl f_3_11 (kdK eT (kd_48 hL)) (by decide) (rfH eT (rf_48_0 hL)) ?_
      refine At_iload (pc' := 88) iX3_longestCommon_86 rfl rfl ?_
      refine At_iconst (v := nI 1) (pc' := 89) iX3_longestCommon_88 rfl (by decide) ?_
      refine At_isub (pc' := 90) iX3_longestCommon_89 rfl ?_
      obtain ⟨hn2, hv⟩ := hv
      refine At_iald (pc' := 91) iX3_longestCommon_90 rfl (kdH eT (kd_49 hL)) hn2 (show At (d + 1) MX3_longestCommon 91 [.ref 48, .long x1, un, .long x3, un, .int x5, .int x6, .int x7, .int ((x6 * (nI 8)) + x7)] [.int (gI h 49 ((((x6 * (nI 8)) + x7) - (nI 1)).toNatClampNeg)), .int (gI h 49 ((((x6 * (nI 8)) + x7) - (nI 8)).toNatClampNeg)), .int ((x6 * (nI 8)) + x7), .ref 49] h Q from ?_)
      refine At_max (pc' := 94) iX3_longestCommon_91 rfl m_3_46 (Nat.le_of_ble_eq_true rfl) ?_
      obtain ⟨hn3, hv⟩ := hv
      refine At_iast (pc' := 95) iX3_longestCommon_94 rfl (kdH eT (kd_49 hL)) hn3 (show At (d + 1) MX3_longestCommon 95 [.ref 48, .long x1, un, .long x3, un, .int x5, .int x6, .int x7, .int ((x6 * (nI 8)) + x7)] [] (sI h 49 (((x6 * (nI 8)) + x7).toNatClampNeg) (if (gI h 49 ((((x6 * (nI 8)) + x7) - (nI 8)).toNatClampNeg)) < (gI h 49 ((((x6 * (nI 8)) + x7) - (nI 1)).toNatClampNeg)) then gI h 49 ((((x6 * (nI 8)) + x7) - (nI 1)).toNatClampNeg) else gI h 49 ((((x6 * (nI 8)) + x7) - (nI 8)).toNatClampNeg))) Q from ?_)
      refine At_iinc (v := nI 1) (L' := [.ref 48, .long x1, un, .long x3, un, .int x5, .int x6, .int (x7 + nI 1), .int ((x6 * (nI 8)) + x7)]) (pc' := 98) iX3_longestCommon_95 rfl rfl (Nat.le_of_ble_eq_true rfl) (by decide) rfl ?_
      refine At_goto (t := 13) iX3_longestCommon_98 (by decide) ?_
      exact hv _
    · have hv := hv.1 c52
      refine At_aload_n (pc' := 56) iX3_longestCommon_55 rfl rfl ?_
      refine At_getR (pc' := 59) iX3_longestCommon_56 rfl f_3_11 (kdK eT (kd_48 hL)) (by decide) (rfH eT (rf_48_0 hL)) ?_
      refine At_iload (pc' := 61) iX3_longestCommon_59 rfl rfl ?_
      refine At_bipush (v := nI 8) (pc' := 63) iX3_longestCommon_61 rfl (by decide) ?_
      refine At_isub (pc' := 64) iX3_longestCommon_63 rfl ?_
      refine At_iconst (v := nI 1) (pc' := 65) iX3_longestCommon_64 rfl (by decide) ?_
      refine At_isub (pc' := 66) iX3_longestCommon_65 rfl ?_
      obtain ⟨hn4, hv⟩ := hv
      refine At_iald (pc' := 67) iX3_longestCommon_66 rfl (kdH eT (kd_49 hL)) hn4 (show At (d + 1) MX3_longestCommon 67 [.ref 48, .long x1, un, .long x3, un, .int x5, .int x6, .int x7, .int ((x6 * (nI 8)) + x7)] [.int (gI h 49 (((((x6 * (nI 8)) + x7) - (nI 8)) - (nI 1)).toNatClampNeg)), .int ((x6 * (nI 8)) + x7), .ref 49] h Q from ?_)
      refine At_iconst (v := nI 1) (pc' := 68) iX3_longestCommon_67 rfl (by decide) ?_
      refine At_iadd (pc' := 69) iX3_longestCommon_68 rfl ?_
      refine At_goto (t := 94) iX3_longestCommon_69 (by decide) ?_
      obtain ⟨hn5, hv⟩ := hv
      refine At_iast (pc' := 95) iX3_longestCommon_94 rfl (kdH eT (kd_49 hL)) hn5 (show At (d + 1) MX3_longestCommon 95 [.ref 48, .long x1, un, .long x3, un, .int x5, .int x6, .int x7, .int ((x6 * (nI 8)) + x7)] [] (sI h 49 (((x6 * (nI 8)) + x7).toNatClampNeg) ((gI h 49 (((((x6 * (nI 8)) + x7) - (nI 8)) - (nI 1)).toNatClampNeg)) + (nI 1))) Q from ?_)
      refine At_iinc (v := nI 1) (L' := [.ref 48, .long x1, un, .long x3, un, .int x5, .int x6, .int (x7 + nI 1), .int ((x6 * (nI 8)) + x7)]) (pc' := 98) iX3_longestCommon_95 rfl rfl (Nat.le_of_ble_eq_true rfl) (by decide) rfl ?_
      refine At_goto (t := 13) iX3_longestCommon_98 (by decide) ?_
      exact hv _
-- X5_readToken (by choice)
set_option maxRecDepth 20000 in
theorem b_X5_readToken {d : Nat} {T : HT} (hL : Lay T) {h : Hp} (eT : h.2.2 = T) (x1 : Int32)  {Q : Option Value → Hp → Prop} (hv : (p_X5_take h) ∧ ((((gI (w_X5_take h) 2 6) = x1) → (Q (some (.int (b2i true))) (w_X5_take h))) ∧ (¬ ((gI (w_X5_take h) 2 6) = x1) → ((p_X5_fail (nI 1) (w_X5_take h)) ∧ ((((r_X5_fail (nI 1) (w_X5_take h)) = true) → (Q (some (.int (b2i true))) (w_X5_fail (nI 1) (w_X5_take h)))) ∧ (¬ ((r_X5_fail (nI 1) (w_X5_take h)) = true) → (Q (some (.int (b2i false))) (w_X5_fail (nI 1) (w_X5_take h))))))))) : Call (d + 1) MX5_readToken [.ref 2, .int x1] h Q := by
  show At (d + 1) MX5_readToken 0 [.ref 2, .int x1] [] h Q
  refine At_aload_n (pc' := 1) iX5_readToken_0 rfl rfl ?_
  refine At_virt (pc' := 4) iX5_readToken_1 rfl m_5_67 rfl rfl (kdK eT (kd_2 hL)) (Nat.le_of_ble_eq_true rfl) (Nat.le_of_ble_eq_true rfl) ?_
  obtain ⟨hn1, hv⟩ := hv
  refine c_X5_take (h := h) hL eT   hn1 (show At (d + 1) MX5_readToken 4 [.ref 2, .int x1] [] (w_X5_take h) Q from ?_)
  refine At_aload_n (pc' := 5) iX5_readToken_4 rfl rfl ?_
  refine At_getI (pc' := 8) iX5_readToken_5 rfl f_5_38 (kdK ((wT_X5_take h).trans eT) (kd_2 hL)) (by decide) ?_
  refine At_iload_n (pc' := 9) iX5_readToken_8 rfl rfl ?_
  refine At_icmp_eq (t := 20) (pc' := 12) iX5_readToken_9 (by decide) rfl (fun c9 => ?_) (fun c9 => ?_)
  · have hv := hv.1 c9
    refine At_iconst (v := nI 1) (pc' := 21) iX5_readToken_20 rfl (by decide) ?_
    refine At_goto (t := 25) iX5_readToken_21 (by decide) ?_
    exact At_retT iX5_readToken_25 rfl hv
  · have hv := hv.2 c9
    refine At_aload_n (pc' := 13) iX5_readToken_12 rfl rfl ?_
    refine At_iconst (v := nI 1) (pc' := 14) iX5_readToken_13 rfl (by decide) ?_
    refine At_virt (pc' := 17) iX5_readToken_14 rfl m_5_89 rfl rfl (kdK ((wT_X5_take h).trans eT) (kd_2 hL)) (Nat.le_of_ble_eq_true rfl) (Nat.le_of_ble_eq_true rfl) ?_
    obtain ⟨hn2, hv⟩ := hv
    refine c_X5_fail (h := w_X5_take h) hL ((wT_X5_take h).trans eT) (nI 1)  hn2 (show At (d + 1) MX5_readToken 17 [.ref 2, .int x1] [.int (b2i (r_X5_fail (nI 1) (w_X5_take h)))] (w_X5_fail (nI 1) (w_X5_take h)) Q from ?_)
    refine At_zeq (t := 24) (pc' := 20) iX5_readToken_17 (by decide) rfl (fun c17 => ?_) (fun c17 => ?_)
    · have hv := hv.2 c17
      refine At_iconst (v := nI 0) (pc' := 25) iX5_readToken_24 rfl (by decide) ?_
      exact At_retF iX5_readToken_25 rfl hv
    · have hv := hv.1 c17
      refine At_iconst (v := nI 1) (pc' := 21) iX5_readToken_20 rfl (by decide) ?_
      refine At_goto (t := 25) iX5_readToken_21 (by decide) ?_
      exact At_retT iX5_readToken_25 rfl hv
-- X6_slotWith (loop)
def L_X6_slotWith_3 (d : Nat) (x0 : Int64) (x2 : Int32) (x3 : Int32) (x4 : Int32) (h : Hp) (Q : Option Value → Hp → Prop) : Prop := At (d + 1) MX6_slotWith 3 [.long x0, un, .int x2, .int x3, .int x4] [] h Q
set_option maxRecDepth 20000 in
theorem b_X6_slotWith {d : Nat} {T : HT} (hL : Lay T) {h : Hp} (eT : h.2.2 = T) (x0 : Int64) (x2 : Int32) (x3 : Int32)  {Q : Option Value → Hp → Prop} (hv : L_X6_slotWith_3 d x0 x2 x3 (nI 0) h Q) : Call (d + 1) MX6_slotWith [.long x0, .int x2, .int x3] h Q := by
  show At (d + 1) MX6_slotWith 0 [.long x0, un, .int x2, .int x3, un] [] h Q
  refine At_iconst (v := nI 0) (pc' := 1) iX6_slotWith_0 rfl (by decide) ?_
  refine At_istore (L' := [.long x0, un, .int x2, .int x3, .int (nI 0)]) (pc' := 3) iX6_slotWith_1 rfl (Nat.le_of_ble_eq_true rfl) rfl ?_
  exact hv
set_option maxRecDepth 20000 in
theorem b_X6_slotWith_3 {d : Nat} {T : HT} (hL : Lay T) {h : Hp} (eT : h.2.2 = T) (x0 : Int64) (x2 : Int32) (x3 : Int32) (x4 : Int32)  {Q : Option Value → Hp → Prop} (hv : ((x4 < x3) → ((((r_X6_get x0 x4) = x2) → (Q (some (.int x4)) h)) ∧ (¬ ((r_X6_get x0 x4) = x2) → (L_X6_slotWith_3 d x0 x2 x3 (x4 + nI 1) h Q)))) ∧ (¬ (x4 < x3) → (Q (some (.int (-1))) h))) : L_X6_slotWith_3 d x0 x2 x3 x4 h Q := by
  refine At_iload (pc' := 5) iX6_slotWith_3 rfl rfl ?_
  refine At_iload_n (pc' := 6) iX6_slotWith_5 rfl rfl ?_
  refine At_icmp_ge (t := 28) (pc' := 9) iX6_slotWith_6 (by decide) rfl (fun c6 => ?_) (fun c6 => ?_)
  · have hv := hv.2 c6
    refine At_iconst (v := (-1)) (pc' := 29) iX6_slotWith_28 rfl (by decide) ?_
    exact At_retI iX6_slotWith_29 rfl hv
  · have hv := hv.1 c6
    refine At_lload_n (pc' := 10) iX6_slotWith_9 rfl rfl ?_
    refine At_iload (pc' := 12) iX6_slotWith_10 rfl rfl ?_
    refine At_stat (pc' := 15) iX6_slotWith_12 rfl m_6_21 rfl rfl (Nat.le_of_ble_eq_true rfl) (Nat.le_of_ble_eq_true rfl) (Nat.le_of_ble_eq_true rfl) ?_
    refine c_X6_get (h := h) x0 x4   (show At (d + 1) MX6_slotWith 15 [.long x0, un, .int x2, .int x3, .int x4] [.int (r_X6_get x0 x4)] h Q from ?_)
    refine At_iload_n (pc' := 16) iX6_slotWith_15 rfl rfl ?_
    refine At_icmp_ne (t := 22) (pc' := 19) iX6_slotWith_16 (by decide) rfl (fun c16 => ?_) (fun c16 => ?_)
    · have hv := hv.2 c16
      refine At_iinc (v := nI 1) (L' := [.long x0, un, .int x2, .int x3, .int (x4 + nI 1)]) (pc' := 25) iX6_slotWith_22 rfl rfl (Nat.le_of_ble_eq_true rfl) (by decide) rfl ?_
      refine At_goto (t := 3) iX6_slotWith_25 (by decide) ?_
      exact hv
    · have hv := hv.1 c16
      refine At_iload (pc' := 21) iX6_slotWith_19 rfl rfl ?_
      exact At_retI iX6_slotWith_21 rfl hv
-- X8_copy (loop)
def L_X8_copy_49 (d : Nat) (a : Nat) (x1 : Nat) (x2 : Int32) (h : Hp) (Q : Option Value → Hp → Prop) : Prop := At (d + 1) MX8_copy 49 [.ref a, .ref x1, .int x2] [] h Q
set_option maxRecDepth 20000 in
theorem b_X8_copy {d : Nat} {T : HT} (hL : Lay T) {h : Hp} (eT : h.2.2 = T) (a : Nat) (x1 : Nat) (hA : IsX8 T a) (hA1 : IsX8 T x1) {Q : Option Value → Hp → Prop} (hv : L_X8_copy_49 d a x1 (nI 0) (cpI (sJ (sJ (sI (sI h a 0 (gI h x1 0)) a 1 (gI (sI h a 0 (gI h x1 0)) x1 1)) a 2 (gJ (sI (sI h a 0 (gI h x1 0)) a 1 (gI (sI h a 0 (gI h x1 0)) x1 1)) x1 2)) a 3 (gJ (sJ (sI (sI h a 0 (gI h x1 0)) a 1 (gI (sI h a 0 (gI h x1 0)) x1 1)) a 2 (gJ (sI (sI h a 0 (gI h x1 0)) a 1 (gI (sI h a 0 (gI h x1 0)) x1 1)) x1 2)) x1 3)) (x1 + 1) 0 (a + 1) 0 30) Q) : Call (d + 1) MX8_copy [.ref a, .ref x1] h Q := by
  show At (d + 1) MX8_copy 0 [.ref a, .ref x1, un] [] h Q
  refine At_aload_n (pc' := 1) iX8_copy_0 rfl rfl ?_
  refine At_aload_n (pc' := 2) iX8_copy_1 rfl rfl ?_
  refine At_getI (pc' := 5) iX8_copy_2 rfl f_8_9 (kdK eT (X8_k0 hA1)) (by decide) ?_
  refine At_putI (pc' := 8) iX8_copy_5 rfl f_8_9 (kdK eT (X8_k0 hA)) (Or.inl rfl) (by decide) ?_
  refine At_aload_n (pc' := 9) iX8_copy_8 rfl rfl ?_
  refine At_aload_n (pc' := 10) iX8_copy_9 rfl rfl ?_
  refine At_getI (pc' := 13) iX8_copy_10 rfl f_8_15 (kdK eT (X8_k0 hA1)) (by decide) ?_
  refine At_putI (pc' := 16) iX8_copy_13 rfl f_8_15 (kdK eT (X8_k0 hA)) (Or.inl rfl) (by decide) ?_
  refine At_aload_n (pc' := 17) iX8_copy_16 rfl rfl ?_
  refine At_aload_n (pc' := 18) iX8_copy_17 rfl rfl ?_
  refine At_getJ (pc' := 21) iX8_copy_18 rfl f_8_18 (kdK eT (X8_k0 hA1)) (by decide) ?_
  refine At_putJ (pc' := 24) iX8_copy_21 rfl f_8_18 (kdK eT (X8_k0 hA)) (Or.inl rfl) (by decide) ?_
  refine At_aload_n (pc' := 25) iX8_copy_24 rfl rfl ?_
  refine At_aload_n (pc' := 26) iX8_copy_25 rfl rfl ?_
  refine At_getJ (pc' := 29) iX8_copy_26 rfl f_8_22 (kdK eT (X8_k0 hA1)) (by decide) ?_
  refine At_putJ (pc' := 32) iX8_copy_29 rfl f_8_22 (kdK eT (X8_k0 hA)) (Or.inl rfl) (by decide) ?_
  refine At_aload_n (pc' := 33) iX8_copy_32 rfl rfl ?_
  refine At_getR (pc' := 36) iX8_copy_33 rfl f_8_25 (kdK eT (X8_k0 hA1)) (by decide) (rfH eT (X8_r4 hA1)) ?_
  refine At_iconst (v := nI 0) (pc' := 37) iX8_copy_36 rfl (by decide) ?_
  refine At_aload_n (pc' := 38) iX8_copy_37 rfl rfl ?_
  refine At_getR (pc' := 41) iX8_copy_38 rfl f_8_25 (kdK eT (X8_k0 hA)) (by decide) (rfH eT (X8_r4 hA)) ?_
  refine At_iconst (v := nI 0) (pc' := 42) iX8_copy_41 rfl (by decide) ?_
  refine At_bipush (v := nI 30) (pc' := 44) iX8_copy_42 rfl (by decide) ?_
  refine At_copy (pc' := 47) iX8_copy_44 rfl m_8_62 (Nat.le_of_ble_eq_true rfl) (kdH eT (X8_k1 hA1)) (kdH eT (X8_k1 hA)) (by decide) (show At (d + 1) MX8_copy 47 [.ref a, .ref x1, un] [] (cpI (sJ (sJ (sI (sI h a 0 (gI h x1 0)) a 1 (gI (sI h a 0 (gI h x1 0)) x1 1)) a 2 (gJ (sI (sI h a 0 (gI h x1 0)) a 1 (gI (sI h a 0 (gI h x1 0)) x1 1)) x1 2)) a 3 (gJ (sJ (sI (sI h a 0 (gI h x1 0)) a 1 (gI (sI h a 0 (gI h x1 0)) x1 1)) a 2 (gJ (sI (sI h a 0 (gI h x1 0)) a 1 (gI (sI h a 0 (gI h x1 0)) x1 1)) x1 2)) x1 3)) (x1 + 1) 0 (a + 1) 0 30) Q from ?_)
  refine At_iconst (v := nI 0) (pc' := 48) iX8_copy_47 rfl (by decide) ?_
  refine At_istore_n (L' := [.ref a, .ref x1, .int (nI 0)]) (pc' := 49) iX8_copy_48 rfl (Nat.le_of_ble_eq_true rfl) rfl ?_
  exact hv
set_option maxRecDepth 20000 in
theorem b_X8_copy_49 {d : Nat} {T : HT} (hL : Lay T) {h : Hp} (eT : h.2.2 = T) (a : Nat) (x1 : Nat) (x2 : Int32) (hA : IsX8 T a) (hA1 : IsX8 T x1) {Q : Option Value → Hp → Prop} (hv : ((x2 < (nI 4)) → (∃ k59 : Nat, x2 = nI k59 ∧ k59 < 4 ∧ (∃ k65 : Nat, x2 = nI k65 ∧ k65 < 4 ∧ ((p_X7_copy (a + 8 + 2 * k59) (x1 + 8 + 2 * k65) h) ∧ (L_X8_copy_49 d a x1 (x2 + nI 1) (w_X7_copy (a + 8 + 2 * k59) (x1 + 8 + 2 * k65) h) Q))))) ∧ (¬ (x2 < (nI 4)) → (Q none (cpI (w_X1_copy (a + 3) (x1 + 3) h) (x1 + 6) 0 (a + 6) 0 300)))) : L_X8_copy_49 d a x1 x2 h Q := by
  refine At_iload_n (pc' := 50) iX8_copy_49 rfl rfl ?_
  refine At_iconst (v := nI 4) (pc' := 51) iX8_copy_50 rfl (by decide) ?_
  refine At_icmp_ge (t := 75) (pc' := 54) iX8_copy_51 (by decide) rfl (fun c51 => ?_) (fun c51 => ?_)
  · have hv := hv.2 c51
    refine At_aload_n (pc' := 76) iX8_copy_75 rfl rfl ?_
    refine At_getR (pc' := 79) iX8_copy_76 rfl f_8_38 (kdK eT (X8_k0 hA)) (by decide) (rfH eT (X8_r6 hA)) ?_
    refine At_aload_n (pc' := 80) iX8_copy_79 rfl rfl ?_
    refine At_getR (pc' := 83) iX8_copy_80 rfl f_8_38 (kdK eT (X8_k0 hA1)) (by decide) (rfH eT (X8_r6 hA1)) ?_
    refine At_virt (pc' := 86) iX8_copy_83 rfl m_8_72 rfl rfl (kdK eT (X1_k0 (X8_cord hA))) (Nat.le_of_ble_eq_true rfl) (Nat.le_of_ble_eq_true rfl) ?_
    refine c_X1_copy (h := h) hL eT (a + 3) (x1 + 3) (X8_cord hA) (X8_cord hA1)  (show At (d + 1) MX8_copy 86 [.ref a, .ref x1, .int x2] [] (w_X1_copy (a + 3) (x1 + 3) h) Q from ?_)
    refine At_aload_n (pc' := 87) iX8_copy_86 rfl rfl ?_
    refine At_getR (pc' := 90) iX8_copy_87 rfl f_8_42 (kdK ((wT_X1_copy (a + 3) (x1 + 3) h).trans eT) (X8_k0 hA1)) (by decide) (rfH ((wT_X1_copy (a + 3) (x1 + 3) h).trans eT) (X8_r7 hA1)) ?_
    refine At_iconst (v := nI 0) (pc' := 91) iX8_copy_90 rfl (by decide) ?_
    refine At_aload_n (pc' := 92) iX8_copy_91 rfl rfl ?_
    refine At_getR (pc' := 95) iX8_copy_92 rfl f_8_42 (kdK ((wT_X1_copy (a + 3) (x1 + 3) h).trans eT) (X8_k0 hA)) (by decide) (rfH ((wT_X1_copy (a + 3) (x1 + 3) h).trans eT) (X8_r7 hA)) ?_
    refine At_iconst (v := nI 0) (pc' := 96) iX8_copy_95 rfl (by decide) ?_
    refine At_sipush (v := nI 300) (pc' := 99) iX8_copy_96 rfl (by decide) ?_
    refine At_copy (pc' := 102) iX8_copy_99 rfl m_8_62 (Nat.le_of_ble_eq_true rfl) (kdH ((wT_X1_copy (a + 3) (x1 + 3) h).trans eT) (X8_k6 hA1)) (kdH ((wT_X1_copy (a + 3) (x1 + 3) h).trans eT) (X8_k6 hA)) (by decide) (show At (d + 1) MX8_copy 102 [.ref a, .ref x1, .int x2] [] (cpI (w_X1_copy (a + 3) (x1 + 3) h) (x1 + 6) 0 (a + 6) 0 300) Q from ?_)
    exact At_retV iX8_copy_102 rfl hv
  · have hv := hv.1 c51
    refine At_aload_n (pc' := 55) iX8_copy_54 rfl rfl ?_
    refine At_getR (pc' := 58) iX8_copy_55 rfl f_8_31 (kdK eT (X8_k0 hA)) (by decide) (rfH eT (X8_r5 hA)) ?_
    refine At_iload_n (pc' := 59) iX8_copy_58 rfl rfl ?_
    obtain ⟨k59, e59, hk59, hv⟩ := hv
    refine At_aald (b := (a + 8 + 2 * k59)) (pc' := 60) iX8_copy_59 rfl (kdH eT (X8_k2 hA)) (by decide) (by rw [e59]; exact inB_nI hk59 (by decide)) (by rw [e59, nI_clamp (by omega)]; exact rfH eT (X8_sref hA hk59)) ?_
    refine At_aload_n (pc' := 61) iX8_copy_60 rfl rfl ?_
    refine At_getR (pc' := 64) iX8_copy_61 rfl f_8_31 (kdK eT (X8_k0 hA1)) (by decide) (rfH eT (X8_r5 hA1)) ?_
    refine At_iload_n (pc' := 65) iX8_copy_64 rfl rfl ?_
    obtain ⟨k65, e65, hk65, hv⟩ := hv
    refine At_aald (b := (x1 + 8 + 2 * k65)) (pc' := 66) iX8_copy_65 rfl (kdH eT (X8_k2 hA1)) (by decide) (by rw [e65]; exact inB_nI hk65 (by decide)) (by rw [e65, nI_clamp (by omega)]; exact rfH eT (X8_sref hA1 hk65)) ?_
    refine At_virt (pc' := 69) iX8_copy_66 rfl m_8_68 rfl rfl (kdK eT (X7_k0 (X8_song hA hk59))) (Nat.le_of_ble_eq_true rfl) (Nat.le_of_ble_eq_true rfl) ?_
    obtain ⟨hn1, hv⟩ := hv
    refine c_X7_copy (h := h) hL eT (a + 8 + 2 * k59) (x1 + 8 + 2 * k65) (X8_song hA hk59) (X8_song hA1 hk65) hn1 (show At (d + 1) MX8_copy 69 [.ref a, .ref x1, .int x2] [] (w_X7_copy (a + 8 + 2 * k59) (x1 + 8 + 2 * k65) h) Q from ?_)
    refine At_iinc (v := nI 1) (L' := [.ref a, .ref x1, .int (x2 + nI 1)]) (pc' := 72) iX8_copy_69 rfl rfl (Nat.le_of_ble_eq_true rfl) (by decide) rfl ?_
    refine At_goto (t := 49) iX8_copy_72 (by decide) ?_
    exact hv
-- X8_countUnlike (loop)
def L_X8_countUnlike_5 (d : Nat) (a : Nat) (x1 : Int64) (x3 : Int32) (x4 : Int32) (h : Hp) (Q : Option Value → Hp → Prop) : Prop := At (d + 1) MX8_countUnlike 5 [.ref a, .long x1, un, .int x3, .int x4] [] h Q
set_option maxRecDepth 20000 in
theorem b_X8_countUnlike {d : Nat} {T : HT} (hL : Lay T) {h : Hp} (eT : h.2.2 = T) (a : Nat) (x1 : Int64) (hA : IsX8 T a) {Q : Option Value → Hp → Prop} (hv : L_X8_countUnlike_5 d a x1 (nI 0) (nI 0) h Q) : Call (d + 1) MX8_countUnlike [.ref a, .long x1] h Q := by
  show At (d + 1) MX8_countUnlike 0 [.ref a, .long x1, un, un, un] [] h Q
  refine At_iconst (v := nI 0) (pc' := 1) iX8_countUnlike_0 rfl (by decide) ?_
  refine At_istore_n (L' := [.ref a, .long x1, un, .int (nI 0), un]) (pc' := 2) iX8_countUnlike_1 rfl (Nat.le_of_ble_eq_true rfl) rfl ?_
  refine At_iconst (v := nI 0) (pc' := 3) iX8_countUnlike_2 rfl (by decide) ?_
  refine At_istore (L' := [.ref a, .long x1, un, .int (nI 0), .int (nI 0)]) (pc' := 5) iX8_countUnlike_3 rfl (Nat.le_of_ble_eq_true rfl) rfl ?_
  exact hv
set_option maxRecDepth 20000 in
theorem b_X8_countUnlike_5 {d : Nat} {T : HT} (hL : Lay T) {h : Hp} (eT : h.2.2 = T) (a : Nat) (x1 : Int64) (x3 : Int32) (x4 : Int32) (hA : IsX8 T a) {Q : Option Value → Hp → Prop} (hv : ((x4 < (gI h a 0)) → ((((r_X6_get x1 x4) = (r_X6_get (gJ h a 2) x4)) → (L_X8_countUnlike_5 d a x1 x3 (x4 + nI 1) h Q)) ∧ (¬ ((r_X6_get x1 x4) = (r_X6_get (gJ h a 2) x4)) → (L_X8_countUnlike_5 d a x1 (x3 + nI 1) (x4 + nI 1) h Q)))) ∧ (¬ (x4 < (gI h a 0)) → (Q (some (.int x3)) h))) : L_X8_countUnlike_5 d a x1 x3 x4 h Q := by
  refine At_iload (pc' := 7) iX8_countUnlike_5 rfl rfl ?_
  refine At_aload_n (pc' := 8) iX8_countUnlike_7 rfl rfl ?_
  refine At_getI (pc' := 11) iX8_countUnlike_8 rfl f_8_9 (kdK eT (X8_k0 hA)) (by decide) ?_
  refine At_icmp_ge (t := 41) (pc' := 14) iX8_countUnlike_11 (by decide) rfl (fun c11 => ?_) (fun c11 => ?_)
  · have hv := hv.2 c11
    refine At_iload_n (pc' := 42) iX8_countUnlike_41 rfl rfl ?_
    exact At_retI iX8_countUnlike_42 rfl hv
  · have hv := hv.1 c11
    refine At_lload_n (pc' := 15) iX8_countUnlike_14 rfl rfl ?_
    refine At_iload (pc' := 17) iX8_countUnlike_15 rfl rfl ?_
    refine At_stat (pc' := 20) iX8_countUnlike_17 rfl m_8_75 rfl rfl (Nat.le_of_ble_eq_true rfl) (Nat.le_of_ble_eq_true rfl) (Nat.le_of_ble_eq_true rfl) ?_
    refine c_X6_get (h := h) x1 x4   (show At (d + 1) MX8_countUnlike 20 [.ref a, .long x1, un, .int x3, .int x4] [.int (r_X6_get x1 x4)] h Q from ?_)
    refine At_aload_n (pc' := 21) iX8_countUnlike_20 rfl rfl ?_
    refine At_getJ (pc' := 24) iX8_countUnlike_21 rfl f_8_18 (kdK eT (X8_k0 hA)) (by decide) ?_
    refine At_iload (pc' := 26) iX8_countUnlike_24 rfl rfl ?_
    refine At_stat (pc' := 29) iX8_countUnlike_26 rfl m_8_75 rfl rfl (Nat.le_of_ble_eq_true rfl) (Nat.le_of_ble_eq_true rfl) (Nat.le_of_ble_eq_true rfl) ?_
    refine c_X6_get (h := h) (gJ h a 2) x4   (show At (d + 1) MX8_countUnlike 29 [.ref a, .long x1, un, .int x3, .int x4] [.int (r_X6_get (gJ h a 2) x4), .int (r_X6_get x1 x4)] h Q from ?_)
    refine At_icmp_eq (t := 35) (pc' := 32) iX8_countUnlike_29 (by decide) rfl (fun c29 => ?_) (fun c29 => ?_)
    · have hv := hv.1 c29
      refine At_iinc (v := nI 1) (L' := [.ref a, .long x1, un, .int x3, .int (x4 + nI 1)]) (pc' := 38) iX8_countUnlike_35 rfl rfl (Nat.le_of_ble_eq_true rfl) (by decide) rfl ?_
      refine At_goto (t := 5) iX8_countUnlike_38 (by decide) ?_
      exact hv
    · have hv := hv.2 c29
      refine At_iinc (v := nI 1) (L' := [.ref a, .long x1, un, .int (x3 + nI 1), .int x4]) (pc' := 35) iX8_countUnlike_32 rfl rfl (Nat.le_of_ble_eq_true rfl) (by decide) rfl ?_
      refine At_iinc (v := nI 1) (L' := [.ref a, .long x1, un, .int (x3 + nI 1), .int (x4 + nI 1)]) (pc' := 38) iX8_countUnlike_35 rfl rfl (Nat.le_of_ble_eq_true rfl) (by decide) rfl ?_
      refine At_goto (t := 5) iX8_countUnlike_38 (by decide) ?_
      exact hv
-- X8_rowsComeAgain (loop)
def L_X8_rowsComeAgain_2 (d : Nat) (a : Nat) (x1 : Int32) (x2 : Int32) (x3 : Int32) (h : Hp) (Q : Option Value → Hp → Prop) : Prop := At (d + 1) MX8_rowsComeAgain 2 [.ref a, .int x1, .int x2, .int x3] [] h Q
set_option maxRecDepth 20000 in
theorem b_X8_rowsComeAgain {d : Nat} {T : HT} (hL : Lay T) {h : Hp} (eT : h.2.2 = T) (a : Nat) (x1 : Int32) (x2 : Int32) (hA : IsX8 T a) {Q : Option Value → Hp → Prop} (hv : L_X8_rowsComeAgain_2 d a x1 x2 (nI 0) h Q) : Call (d + 1) MX8_rowsComeAgain [.ref a, .int x1, .int x2] h Q := by
  show At (d + 1) MX8_rowsComeAgain 0 [.ref a, .int x1, .int x2, un] [] h Q
  refine At_iconst (v := nI 0) (pc' := 1) iX8_rowsComeAgain_0 rfl (by decide) ?_
  refine At_istore_n (L' := [.ref a, .int x1, .int x2, .int (nI 0)]) (pc' := 2) iX8_rowsComeAgain_1 rfl (Nat.le_of_ble_eq_true rfl) rfl ?_
  exact hv
set_option maxRecDepth 20000 in
theorem b_X8_rowsComeAgain_2 {d : Nat} {T : HT} (hL : Lay T) {h : Hp} (eT : h.2.2 = T) (a : Nat) (x1 : Int32) (x2 : Int32) (x3 : Int32) (hA : IsX8 T a) {Q : Option Value → Hp → Prop} (hv : (((x3 + x1) < (gI h (a + 3) 3)) → ((p_X8_rowPart a x3 x2 h) ∧ ((p_X8_rowPart a (x3 + x1) x2 h) ∧ ((((r_X8_rowPart a x3 x2 h) = (r_X8_rowPart a (x3 + x1) x2 h)) → (L_X8_rowsComeAgain_2 d a x1 x2 (x3 + nI 1) h Q)) ∧ (¬ ((r_X8_rowPart a x3 x2 h) = (r_X8_rowPart a (x3 + x1) x2 h)) → (Q (some (.int (b2i false))) h)))))) ∧ (¬ ((x3 + x1) < (gI h (a + 3) 3)) → (Q (some (.int (b2i true))) h))) : L_X8_rowsComeAgain_2 d a x1 x2 x3 h Q := by
  refine At_iload_n (pc' := 3) iX8_rowsComeAgain_2 rfl rfl ?_
  refine At_iload_n (pc' := 4) iX8_rowsComeAgain_3 rfl rfl ?_
  refine At_iadd (pc' := 5) iX8_rowsComeAgain_4 rfl ?_
  refine At_aload_n (pc' := 6) iX8_rowsComeAgain_5 rfl rfl ?_
  refine At_getR (pc' := 9) iX8_rowsComeAgain_6 rfl f_8_38 (kdK eT (X8_k0 hA)) (by decide) (rfH eT (X8_r6 hA)) ?_
  refine At_getI (pc' := 12) iX8_rowsComeAgain_9 rfl f_8_111 (kdK eT (X1_k0 (X8_cord hA))) (by decide) ?_
  refine At_icmp_ge (t := 40) (pc' := 15) iX8_rowsComeAgain_12 (by decide) rfl (fun c12 => ?_) (fun c12 => ?_)
  · have hv := hv.2 c12
    refine At_iconst (v := nI 1) (pc' := 41) iX8_rowsComeAgain_40 rfl (by decide) ?_
    exact At_retT iX8_rowsComeAgain_41 rfl hv
  · have hv := hv.1 c12
    refine At_aload_n (pc' := 16) iX8_rowsComeAgain_15 rfl rfl ?_
    refine At_iload_n (pc' := 17) iX8_rowsComeAgain_16 rfl rfl ?_
    refine At_iload_n (pc' := 18) iX8_rowsComeAgain_17 rfl rfl ?_
    refine At_virt (pc' := 21) iX8_rowsComeAgain_18 rfl m_8_114 rfl rfl (kdK eT (X8_k0 hA)) (Nat.le_of_ble_eq_true rfl) (Nat.le_of_ble_eq_true rfl) ?_
    obtain ⟨hn1, hv⟩ := hv
    refine c_X8_rowPart (h := h) hL eT a x3 x2 hA hn1 (show At (d + 1) MX8_rowsComeAgain 21 [.ref a, .int x1, .int x2, .int x3] [.int (r_X8_rowPart a x3 x2 h)] h Q from ?_)
    refine At_aload_n (pc' := 22) iX8_rowsComeAgain_21 rfl rfl ?_
    refine At_iload_n (pc' := 23) iX8_rowsComeAgain_22 rfl rfl ?_
    refine At_iload_n (pc' := 24) iX8_rowsComeAgain_23 rfl rfl ?_
    refine At_iadd (pc' := 25) iX8_rowsComeAgain_24 rfl ?_
    refine At_iload_n (pc' := 26) iX8_rowsComeAgain_25 rfl rfl ?_
    refine At_virt (pc' := 29) iX8_rowsComeAgain_26 rfl m_8_114 rfl rfl (kdK eT (X8_k0 hA)) (Nat.le_of_ble_eq_true rfl) (Nat.le_of_ble_eq_true rfl) ?_
    obtain ⟨hn2, hv⟩ := hv
    refine c_X8_rowPart (h := h) hL eT a (x3 + x1) x2 hA hn2 (show At (d + 1) MX8_rowsComeAgain 29 [.ref a, .int x1, .int x2, .int x3] [.int (r_X8_rowPart a (x3 + x1) x2 h), .int (r_X8_rowPart a x3 x2 h)] h Q from ?_)
    refine At_icmp_eq (t := 34) (pc' := 32) iX8_rowsComeAgain_29 (by decide) rfl (fun c29 => ?_) (fun c29 => ?_)
    · have hv := hv.1 c29
      refine At_iinc (v := nI 1) (L' := [.ref a, .int x1, .int x2, .int (x3 + nI 1)]) (pc' := 37) iX8_rowsComeAgain_34 rfl rfl (Nat.le_of_ble_eq_true rfl) (by decide) rfl ?_
      refine At_goto (t := 2) iX8_rowsComeAgain_37 (by decide) ?_
      exact hv
    · have hv := hv.2 c29
      refine At_iconst (v := nI 0) (pc' := 33) iX8_rowsComeAgain_32 rfl (by decide) ?_
      exact At_retF iX8_rowsComeAgain_33 rfl hv
-- X8_seen (loop)
def L_X8_seen_5 (d : Nat) (a : Nat) (x1 : Int64) (x3 : Int64) (x5 : Int32) (h : Hp) (Q : Option Value → Hp → Prop) : Prop := At (d + 1) MX8_seen 5 [.ref a, .long x1, un, .long x3, un, .int x5] [] h Q
set_option maxRecDepth 20000 in
theorem b_X8_seen {d : Nat} {T : HT} (hL : Lay T) {h : Hp} (eT : h.2.2 = T) (a : Nat) (x1 : Int64) (hA : IsX8 T a) {Q : Option Value → Hp → Prop} (hv : L_X8_seen_5 d a x1 (0 : Int64) (nI 0) h Q) : Call (d + 1) MX8_seen [.ref a, .long x1] h Q := by
  show At (d + 1) MX8_seen 0 [.ref a, .long x1, un, un, un, un] [] h Q
  refine At_lconst (v := 0) (pc' := 1) iX8_seen_0 rfl (by decide) ?_
  refine At_lstore_n (L' := [.ref a, .long x1, un, .long (0 : Int64), un, un]) (pc' := 2) iX8_seen_1 rfl (Nat.le_of_ble_eq_true rfl) rfl ?_
  refine At_iconst (v := nI 0) (pc' := 3) iX8_seen_2 rfl (by decide) ?_
  refine At_istore (L' := [.ref a, .long x1, un, .long (0 : Int64), un, .int (nI 0)]) (pc' := 5) iX8_seen_3 rfl (Nat.le_of_ble_eq_true rfl) rfl ?_
  exact hv
set_option maxRecDepth 20000 in
theorem b_X8_seen_5 {d : Nat} {T : HT} (hL : Lay T) {h : Hp} (eT : h.2.2 = T) (a : Nat) (x1 : Int64) (x3 : Int64) (x5 : Int32) (hA : IsX8 T a) {Q : Option Value → Hp → Prop} (hv : ((x5 < (gI h a 0)) → (L_X8_seen_5 d a x1 (r_X6_with x3 x5 (r_X6_get (gJ h a 2) (r_X6_get x1 x5))) (x5 + nI 1) h Q)) ∧ (¬ (x5 < (gI h a 0)) → (Q (some (.long x3)) h))) : L_X8_seen_5 d a x1 x3 x5 h Q := by
  refine At_iload (pc' := 7) iX8_seen_5 rfl rfl ?_
  refine At_aload_n (pc' := 8) iX8_seen_7 rfl rfl ?_
  refine At_getI (pc' := 11) iX8_seen_8 rfl f_8_9 (kdK eT (X8_k0 hA)) (by decide) ?_
  refine At_icmp_ge (t := 40) (pc' := 14) iX8_seen_11 (by decide) rfl (fun c11 => ?_) (fun c11 => ?_)
  · have hv := hv.2 c11
    refine At_lload_n (pc' := 41) iX8_seen_40 rfl rfl ?_
    exact At_retJ iX8_seen_41 rfl hv
  · have hv := hv.1 c11
    refine At_lload_n (pc' := 15) iX8_seen_14 rfl rfl ?_
    refine At_iload (pc' := 17) iX8_seen_15 rfl rfl ?_
    refine At_aload_n (pc' := 18) iX8_seen_17 rfl rfl ?_
    refine At_getJ (pc' := 21) iX8_seen_18 rfl f_8_18 (kdK eT (X8_k0 hA)) (by decide) ?_
    refine At_lload_n (pc' := 22) iX8_seen_21 rfl rfl ?_
    refine At_iload (pc' := 24) iX8_seen_22 rfl rfl ?_
    refine At_stat (pc' := 27) iX8_seen_24 rfl m_8_75 rfl rfl (Nat.le_of_ble_eq_true rfl) (Nat.le_of_ble_eq_true rfl) (Nat.le_of_ble_eq_true rfl) ?_
    refine c_X6_get (h := h) x1 x5   (show At (d + 1) MX8_seen 27 [.ref a, .long x1, un, .long x3, un, .int x5] [.int (r_X6_get x1 x5), .long (gJ h a 2), .int x5, .long x3] h Q from ?_)
    refine At_stat (pc' := 30) iX8_seen_27 rfl m_8_75 rfl rfl (Nat.le_of_ble_eq_true rfl) (Nat.le_of_ble_eq_true rfl) (Nat.le_of_ble_eq_true rfl) ?_
    refine c_X6_get (h := h) (gJ h a 2) (r_X6_get x1 x5)   (show At (d + 1) MX8_seen 30 [.ref a, .long x1, un, .long x3, un, .int x5] [.int (r_X6_get (gJ h a 2) (r_X6_get x1 x5)), .int x5, .long x3] h Q from ?_)
    refine At_stat (pc' := 33) iX8_seen_30 rfl m_8_81 rfl rfl (Nat.le_of_ble_eq_true rfl) (Nat.le_of_ble_eq_true rfl) (Nat.le_of_ble_eq_true rfl) ?_
    refine c_X6_with (h := h) x3 x5 (r_X6_get (gJ h a 2) (r_X6_get x1 x5))   (show At (d + 1) MX8_seen 33 [.ref a, .long x1, un, .long x3, un, .int x5] [.long (r_X6_with x3 x5 (r_X6_get (gJ h a 2) (r_X6_get x1 x5)))] h Q from ?_)
    refine At_lstore_n (L' := [.ref a, .long x1, un, .long (r_X6_with x3 x5 (r_X6_get (gJ h a 2) (r_X6_get x1 x5))), un, .int x5]) (pc' := 34) iX8_seen_33 rfl (Nat.le_of_ble_eq_true rfl) rfl ?_
    refine At_iinc (v := nI 1) (L' := [.ref a, .long x1, un, .long (r_X6_with x3 x5 (r_X6_get (gJ h a 2) (r_X6_get x1 x5))), un, .int (x5 + nI 1)]) (pc' := 37) iX8_seen_34 rfl rfl (Nat.le_of_ble_eq_true rfl) (by decide) rfl ?_
    refine At_goto (t := 5) iX8_seen_37 (by decide) ?_
    exact hv
-- X9_endOfRun (loop)
def L_X9_endOfRun_54 (d : Nat) (x2 : Int32) (h : Hp) (Q : Option Value → Hp → Prop) : Prop := ∀ v1 : Value, At (d + 1) MX9_endOfRun 54 [.ref 3, v1, .int x2] [] h Q
def L_X9_endOfRun_16 (d : Nat) (x2 : Int32) (h : Hp) (Q : Option Value → Hp → Prop) : Prop := ∀ v1 : Value, At (d + 1) MX9_endOfRun 16 [.ref 3, v1, .int x2] [] h Q
set_option maxRecDepth 20000 in
theorem b_X9_endOfRun {d : Nat} {T : HT} (hL : Lay T) {h : Hp} (eT : h.2.2 = T) (x1 : Int32)  {Q : Option Value → Hp → Prop} (hv : (inB x1 400 = true) ∧ ((((r_X9_isLetter (gI h 7 x1.toNatClampNeg)) = true) → (L_X9_endOfRun_16 d (x1 + (nI 1)) h Q)) ∧ (¬ ((r_X9_isLetter (gI h 7 x1.toNatClampNeg)) = true) → ((inB x1 400 = true) ∧ ((((r_X9_isDigit (gI h 7 x1.toNatClampNeg)) = true) → (L_X9_endOfRun_54 d (x1 + (nI 1)) h Q)) ∧ (¬ ((r_X9_isDigit (gI h 7 x1.toNatClampNeg)) = true) → (Q (some (.int (x1 + (nI 1)))) h))))))) : Call (d + 1) MX9_endOfRun [.ref 3, .int x1] h Q := by
  show At (d + 1) MX9_endOfRun 0 [.ref 3, .int x1, un] [] h Q
  refine At_iload_n (pc' := 1) iX9_endOfRun_0 rfl rfl ?_
  refine At_iconst (v := nI 1) (pc' := 2) iX9_endOfRun_1 rfl (by decide) ?_
  refine At_iadd (pc' := 3) iX9_endOfRun_2 rfl ?_
  refine At_istore_n (L' := [.ref 3, .int x1, .int (x1 + (nI 1))]) (pc' := 4) iX9_endOfRun_3 rfl (Nat.le_of_ble_eq_true rfl) rfl ?_
  refine At_aload_n (pc' := 5) iX9_endOfRun_4 rfl rfl ?_
  refine At_getR (pc' := 8) iX9_endOfRun_5 rfl f_9_28 (kdK eT (kd_3 hL)) (by decide) (rfH eT (rf_3_5 hL)) ?_
  refine At_iload_n (pc' := 9) iX9_endOfRun_8 rfl rfl ?_
  obtain ⟨hn1, hv⟩ := hv
  refine At_bald (pc' := 10) iX9_endOfRun_9 rfl (kdH eT (kd_7 hL)) hn1 (show At (d + 1) MX9_endOfRun 10 [.ref 3, .int x1, .int (x1 + (nI 1))] [.int (gI h 7 x1.toNatClampNeg)] h Q from ?_)
  refine At_stat (pc' := 13) iX9_endOfRun_10 rfl m_9_51 rfl rfl (Nat.le_of_ble_eq_true rfl) (Nat.le_of_ble_eq_true rfl) (Nat.le_of_ble_eq_true rfl) ?_
  refine c_X9_isLetter (h := h) (gI h 7 x1.toNatClampNeg)   (show At (d + 1) MX9_endOfRun 13 [.ref 3, .int x1, .int (x1 + (nI 1))] [.int (b2i (r_X9_isLetter (gI h 7 x1.toNatClampNeg)))] h Q from ?_)
  refine At_zeq (t := 42) (pc' := 16) iX9_endOfRun_13 (by decide) rfl (fun c13 => ?_) (fun c13 => ?_)
  · have hv := hv.2 c13
    refine At_aload_n (pc' := 43) iX9_endOfRun_42 rfl rfl ?_
    refine At_getR (pc' := 46) iX9_endOfRun_43 rfl f_9_28 (kdK eT (kd_3 hL)) (by decide) (rfH eT (rf_3_5 hL)) ?_
    refine At_iload_n (pc' := 47) iX9_endOfRun_46 rfl rfl ?_
    obtain ⟨hn2, hv⟩ := hv
    refine At_bald (pc' := 48) iX9_endOfRun_47 rfl (kdH eT (kd_7 hL)) hn2 (show At (d + 1) MX9_endOfRun 48 [.ref 3, .int x1, .int (x1 + (nI 1))] [.int (gI h 7 x1.toNatClampNeg)] h Q from ?_)
    refine At_stat (pc' := 51) iX9_endOfRun_48 rfl m_9_54 rfl rfl (Nat.le_of_ble_eq_true rfl) (Nat.le_of_ble_eq_true rfl) (Nat.le_of_ble_eq_true rfl) ?_
    refine c_X9_isDigit (h := h) (gI h 7 x1.toNatClampNeg)   (show At (d + 1) MX9_endOfRun 51 [.ref 3, .int x1, .int (x1 + (nI 1))] [.int (b2i (r_X9_isDigit (gI h 7 x1.toNatClampNeg)))] h Q from ?_)
    refine At_zeq (t := 80) (pc' := 54) iX9_endOfRun_51 (by decide) rfl (fun c51 => ?_) (fun c51 => ?_)
    · have hv := hv.2 c51
      refine At_iload_n (pc' := 81) iX9_endOfRun_80 rfl rfl ?_
      exact At_retI iX9_endOfRun_81 rfl hv
    · have hv := hv.1 c51
      exact hv _
  · have hv := hv.1 c13
    exact hv _
set_option maxRecDepth 20000 in
theorem b_X9_endOfRun_54 {d : Nat} {T : HT} (hL : Lay T) {h : Hp} (eT : h.2.2 = T) (x2 : Int32)  {Q : Option Value → Hp → Prop} (hv : ((x2 < (gI h 3 0)) → ((inB x2 400 = true) ∧ ((((r_X9_isDigit (gI h 7 x2.toNatClampNeg)) = true) → (L_X9_endOfRun_54 d (x2 + nI 1) h Q)) ∧ (¬ ((r_X9_isDigit (gI h 7 x2.toNatClampNeg)) = true) → (Q (some (.int x2)) h))))) ∧ (¬ (x2 < (gI h 3 0)) → (Q (some (.int x2)) h))) : L_X9_endOfRun_54 d x2 h Q := by
  intro v1
  refine At_iload_n (pc' := 55) iX9_endOfRun_54 rfl rfl ?_
  refine At_aload_n (pc' := 56) iX9_endOfRun_55 rfl rfl ?_
  refine At_getI (pc' := 59) iX9_endOfRun_56 rfl f_9_9 (kdK eT (kd_3 hL)) (by decide) ?_
  refine At_icmp_ge (t := 80) (pc' := 62) iX9_endOfRun_59 (by decide) rfl (fun c59 => ?_) (fun c59 => ?_)
  · have hv := hv.2 c59
    refine At_iload_n (pc' := 81) iX9_endOfRun_80 rfl rfl ?_
    exact At_retI iX9_endOfRun_81 rfl hv
  · have hv := hv.1 c59
    refine At_aload_n (pc' := 63) iX9_endOfRun_62 rfl rfl ?_
    refine At_getR (pc' := 66) iX9_endOfRun_63 rfl f_9_28 (kdK eT (kd_3 hL)) (by decide) (rfH eT (rf_3_5 hL)) ?_
    refine At_iload_n (pc' := 67) iX9_endOfRun_66 rfl rfl ?_
    obtain ⟨hn1, hv⟩ := hv
    refine At_bald (pc' := 68) iX9_endOfRun_67 rfl (kdH eT (kd_7 hL)) hn1 (show At (d + 1) MX9_endOfRun 68 [.ref 3, v1, .int x2] [.int (gI h 7 x2.toNatClampNeg)] h Q from ?_)
    refine At_stat (pc' := 71) iX9_endOfRun_68 rfl m_9_54 rfl rfl (Nat.le_of_ble_eq_true rfl) (Nat.le_of_ble_eq_true rfl) (Nat.le_of_ble_eq_true rfl) ?_
    refine c_X9_isDigit (h := h) (gI h 7 x2.toNatClampNeg)   (show At (d + 1) MX9_endOfRun 71 [.ref 3, v1, .int x2] [.int (b2i (r_X9_isDigit (gI h 7 x2.toNatClampNeg)))] h Q from ?_)
    refine At_zeq (t := 80) (pc' := 74) iX9_endOfRun_71 (by decide) rfl (fun c71 => ?_) (fun c71 => ?_)
    · have hv := hv.2 c71
      refine At_iload_n (pc' := 81) iX9_endOfRun_80 rfl rfl ?_
      exact At_retI iX9_endOfRun_81 rfl hv
    · have hv := hv.1 c71
      refine At_iinc (v := nI 1) (L' := [.ref 3, (if 0 = 0 ∧ v1.category = 2 then un else v1), .int (x2 + nI 1)]) (pc' := 77) iX9_endOfRun_74 rfl rfl (Nat.le_of_ble_eq_true rfl) (by decide) rfl ?_
      refine At_goto (t := 54) iX9_endOfRun_77 (by decide) ?_
      exact hv _
set_option maxRecDepth 20000 in
theorem b_X9_endOfRun_16 {d : Nat} {T : HT} (hL : Lay T) {h : Hp} (eT : h.2.2 = T) (x2 : Int32)  {Q : Option Value → Hp → Prop} (hv : ((x2 < (gI h 3 0)) → ((inB x2 400 = true) ∧ ((((r_X9_isLetter (gI h 7 x2.toNatClampNeg)) = true) → (L_X9_endOfRun_16 d (x2 + nI 1) h Q)) ∧ (¬ ((r_X9_isLetter (gI h 7 x2.toNatClampNeg)) = true) → (Q (some (.int x2)) h))))) ∧ (¬ (x2 < (gI h 3 0)) → (Q (some (.int x2)) h))) : L_X9_endOfRun_16 d x2 h Q := by
  intro v1
  refine At_iload_n (pc' := 17) iX9_endOfRun_16 rfl rfl ?_
  refine At_aload_n (pc' := 18) iX9_endOfRun_17 rfl rfl ?_
  refine At_getI (pc' := 21) iX9_endOfRun_18 rfl f_9_9 (kdK eT (kd_3 hL)) (by decide) ?_
  refine At_icmp_ge (t := 80) (pc' := 24) iX9_endOfRun_21 (by decide) rfl (fun c21 => ?_) (fun c21 => ?_)
  · have hv := hv.2 c21
    refine At_iload_n (pc' := 81) iX9_endOfRun_80 rfl rfl ?_
    exact At_retI iX9_endOfRun_81 rfl hv
  · have hv := hv.1 c21
    refine At_aload_n (pc' := 25) iX9_endOfRun_24 rfl rfl ?_
    refine At_getR (pc' := 28) iX9_endOfRun_25 rfl f_9_28 (kdK eT (kd_3 hL)) (by decide) (rfH eT (rf_3_5 hL)) ?_
    refine At_iload_n (pc' := 29) iX9_endOfRun_28 rfl rfl ?_
    obtain ⟨hn1, hv⟩ := hv
    refine At_bald (pc' := 30) iX9_endOfRun_29 rfl (kdH eT (kd_7 hL)) hn1 (show At (d + 1) MX9_endOfRun 30 [.ref 3, v1, .int x2] [.int (gI h 7 x2.toNatClampNeg)] h Q from ?_)
    refine At_stat (pc' := 33) iX9_endOfRun_30 rfl m_9_51 rfl rfl (Nat.le_of_ble_eq_true rfl) (Nat.le_of_ble_eq_true rfl) (Nat.le_of_ble_eq_true rfl) ?_
    refine c_X9_isLetter (h := h) (gI h 7 x2.toNatClampNeg)   (show At (d + 1) MX9_endOfRun 33 [.ref 3, v1, .int x2] [.int (b2i (r_X9_isLetter (gI h 7 x2.toNatClampNeg)))] h Q from ?_)
    refine At_zeq (t := 80) (pc' := 36) iX9_endOfRun_33 (by decide) rfl (fun c33 => ?_) (fun c33 => ?_)
    · have hv := hv.2 c33
      refine At_iload_n (pc' := 81) iX9_endOfRun_80 rfl rfl ?_
      exact At_retI iX9_endOfRun_81 rfl hv
    · have hv := hv.1 c33
      refine At_iinc (v := nI 1) (L' := [.ref 3, (if 0 = 0 ∧ v1.category = 2 then un else v1), .int (x2 + nI 1)]) (pc' := 39) iX9_endOfRun_36 rfl rfl (Nat.le_of_ble_eq_true rfl) (by decide) rfl ?_
      refine At_goto (t := 16) iX9_endOfRun_39 (by decide) ?_
      exact hv _
