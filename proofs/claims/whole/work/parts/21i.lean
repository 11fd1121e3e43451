-- blocks between loop heads; written out by gen20.py
-- X11_where (calls X11_sitsNow)
def L_X11_where_34 (d : Nat) (x1 : Int32) (x2 : Int32) (x3 : Int32) (x4 : Int32) (x5 : Int32) (h : Hp) (Q : Option Value → Hp → Prop) : Prop := At (d + 4) MX11_where 34 [.ref 59, .int x1, .int x2, .int x3, .int x4, .int x5] [] h Q
def L_X11_where_57 (d : Nat) (x2 : Int32) (x5 : Int32) (h : Hp) (Q : Option Value → Hp → Prop) : Prop := ∀ v1 v3 v4 : Value, At (d + 4) MX11_where 57 [.ref 59, v1, .int x2, v3, v4, .int x5] [] h Q
set_option maxRecDepth 20000 in
theorem b_X11_where {d : Nat} {T : HT} (hL : Lay T) {h : Hp} (eT : h.2.2 = T) (x1 : Int32) (x2 : Int32) (x3 : Int32) (x4 : Int32)  {Q : Option Value → Hp → Prop} (hv : (((r_X11_isSong x1) = true) → ((((r_X11_isSlot x2 h) = true) → ((((r_X11_isIn x3 (nI 0) (nI 99)) = true) → (CallV (d + 3) MX11_sitsNow [.ref 59] h (fun h28 => h28.2.2 = T ∧ (L_X11_where_34 d x1 x2 x3 x4 (nI 0) h28 Q)))) ∧ (¬ ((r_X11_isIn x3 (nI 0) (nI 99)) = true) → (Q (some (.int (-1))) h)))) ∧ (¬ ((r_X11_isSlot x2 h) = true) → (Q (some (.int (-1))) h)))) ∧ (¬ ((r_X11_isSong x1) = true) → (Q (some (.int (-1))) h))) : Call (d + 4) MX11_where [.ref 59, .int x1, .int x2, .int x3, .int x4] h Q := by
  show At (d + 4) MX11_where 0 [.ref 59, .int x1, .int x2, .int x3, .int x4, un] [] h Q
  refine At_iload_n (pc' := 1) iX11_where_0 rfl rfl ?_
  refine At_stat (pc' := 4) iX11_where_1 rfl m_11_178 rfl rfl (Nat.le_of_ble_eq_true rfl) (Nat.le_of_ble_eq_true rfl) (Nat.le_of_ble_eq_true rfl) ?_
  refine c_X11_isSong (h := h) x1   (show At (d + 4) MX11_where 4 [.ref 59, .int x1, .int x2, .int x3, .int x4, un] [.int (b2i (r_X11_isSong x1))] h Q from ?_)
  refine At_zeq (t := 25) (pc' := 7) iX11_where_4 (by decide) rfl (fun c4 => ?_) (fun c4 => ?_)
  · have hv := hv.2 c4
    refine At_iconst (v := (-1)) (pc' := 26) iX11_where_25 rfl (by decide) ?_
    exact At_retI iX11_where_26 rfl hv
  · have hv := hv.1 c4
    refine At_aload_n (pc' := 8) iX11_where_7 rfl rfl ?_
    refine At_iload_n (pc' := 9) iX11_where_8 rfl rfl ?_
    refine At_virt (pc' := 12) iX11_where_9 rfl m_11_78 rfl rfl (kdK eT (kd_59 hL)) (Nat.le_of_ble_eq_true rfl) (Nat.le_of_ble_eq_true rfl) ?_
    refine c_X11_isSlot (h := h) hL eT x2   (show At (d + 4) MX11_where 12 [.ref 59, .int x1, .int x2, .int x3, .int x4, un] [.int (b2i (r_X11_isSlot x2 h))] h Q from ?_)
    refine At_zeq (t := 25) (pc' := 15) iX11_where_12 (by decide) rfl (fun c12 => ?_) (fun c12 => ?_)
    · have hv := hv.2 c12
      refine At_iconst (v := (-1)) (pc' := 26) iX11_where_25 rfl (by decide) ?_
      exact At_retI iX11_where_26 rfl hv
    · have hv := hv.1 c12
      refine At_iload_n (pc' := 16) iX11_where_15 rfl rfl ?_
      refine At_iconst (v := nI 0) (pc' := 17) iX11_where_16 rfl (by decide) ?_
      refine At_bipush (v := nI 99) (pc' := 19) iX11_where_17 rfl (by decide) ?_
      refine At_stat (pc' := 22) iX11_where_19 rfl m_11_72 rfl rfl (Nat.le_of_ble_eq_true rfl) (Nat.le_of_ble_eq_true rfl) (Nat.le_of_ble_eq_true rfl) ?_
      refine c_X11_isIn (h := h) x3 (nI 0) (nI 99)   (show At (d + 4) MX11_where 22 [.ref 59, .int x1, .int x2, .int x3, .int x4, un] [.int (b2i (r_X11_isIn x3 (nI 0) (nI 99)))] h Q from ?_)
      refine At_zne (t := 27) (pc' := 25) iX11_where_22 (by decide) rfl (fun c22 => ?_) (fun c22 => ?_)
      · have hv := hv.1 c22
        refine At_aload_n (pc' := 28) iX11_where_27 rfl rfl ?_
        refine At_virt (pc' := 31) iX11_where_28 rfl m_11_202 rfl rfl (kdK eT (kd_59 hL)) (Nat.le_of_ble_eq_true rfl) (Nat.le_of_ble_eq_true rfl) ?_
        refine At.mono (show CallV (d + 3) MX11_sitsNow [.ref 59] h _ from hv) ?_
        rintro _ h28 ⟨rfl, eT28, hv⟩
        show At (d + 4) MX11_where 31 [.ref 59, .int x1, .int x2, .int x3, .int x4, un] [] h28 Q
        refine At_iconst (v := nI 0) (pc' := 32) iX11_where_31 rfl (by decide) ?_
        refine At_istore (L' := [.ref 59, .int x1, .int x2, .int x3, .int x4, .int (nI 0)]) (pc' := 34) iX11_where_32 rfl (Nat.le_of_ble_eq_true rfl) rfl ?_
        exact hv
      · have hv := hv.2 c22
        refine At_iconst (v := (-1)) (pc' := 26) iX11_where_25 rfl (by decide) ?_
        exact At_retI iX11_where_26 rfl hv
set_option maxRecDepth 20000 in
theorem b_X11_where_34 {d : Nat} {T : HT} (hL : Lay T) {h : Hp} (eT : h.2.2 = T) (x1 : Int32) (x2 : Int32) (x3 : Int32) (x4 : Int32) (x5 : Int32)  {Q : Option Value → Hp → Prop} (hv : ((x5 < x3) → (CallV (d + 3) MX11_sings [.ref 59, .int x1, .int x4, .int (-1)] h (fun h45 => h45.2.2 = T ∧ (L_X11_where_34 d x1 x2 x3 x4 (x5 + nI 1) h45 Q)))) ∧ (¬ (x5 < x3) → (L_X11_where_57 d x2 (nI 0) h Q))) : L_X11_where_34 d x1 x2 x3 x4 x5 h Q := by
  refine At_iload (pc' := 36) iX11_where_34 rfl rfl ?_
  refine At_iload_n (pc' := 37) iX11_where_36 rfl rfl ?_
  refine At_icmp_ge (t := 54) (pc' := 40) iX11_where_37 (by decide) rfl (fun c37 => ?_) (fun c37 => ?_)
  · have hv := hv.2 c37
    refine At_iconst (v := nI 0) (pc' := 55) iX11_where_54 rfl (by decide) ?_
    refine At_istore (L' := [.ref 59, .int x1, .int x2, .int x3, .int x4, .int (nI 0)]) (pc' := 57) iX11_where_55 rfl (Nat.le_of_ble_eq_true rfl) rfl ?_
    exact hv _ _ _
  · have hv := hv.1 c37
    refine At_aload_n (pc' := 41) iX11_where_40 rfl rfl ?_
    refine At_iload_n (pc' := 42) iX11_where_41 rfl rfl ?_
    refine At_iload (pc' := 44) iX11_where_42 rfl rfl ?_
    refine At_iconst (v := (-1)) (pc' := 45) iX11_where_44 rfl (by decide) ?_
    refine At_virt (pc' := 48) iX11_where_45 rfl m_11_220 rfl rfl (kdK eT (kd_59 hL)) (Nat.le_of_ble_eq_true rfl) (Nat.le_of_ble_eq_true rfl) ?_
    refine At.mono (show CallV (d + 3) MX11_sings [.ref 59, .int x1, .int x4, .int (-1)] h _ from hv) ?_
    rintro _ h45 ⟨rfl, eT45, hv⟩
    show At (d + 4) MX11_where 48 [.ref 59, .int x1, .int x2, .int x3, .int x4, .int x5] [] h45 Q
    refine At_iinc (v := nI 1) (L' := [.ref 59, .int x1, .int x2, .int x3, .int x4, .int (x5 + nI 1)]) (pc' := 51) iX11_where_48 rfl rfl (Nat.le_of_ble_eq_true rfl) (by decide) rfl ?_
    refine At_goto (t := 34) iX11_where_51 (by decide) ?_
    exact hv
set_option maxRecDepth 20000 in
theorem b_X11_where_57 {d : Nat} {T : HT} (hL : Lay T) {h : Hp} (eT : h.2.2 = T) (x2 : Int32) (x5 : Int32)  {Q : Option Value → Hp → Prop} (hv : (inB x5 16 = true) ∧ ((((gI h 65 x5.toNatClampNeg) = x2) → (Q (some (.int x5)) h)) ∧ (¬ ((gI h 65 x5.toNatClampNeg) = x2) → (L_X11_where_57 d x2 (x5 + nI 1) h Q)))) : L_X11_where_57 d x2 x5 h Q := by
  intro v1 v3 v4
  refine At_aload_n (pc' := 58) iX11_where_57 rfl rfl ?_
  refine At_getR (pc' := 61) iX11_where_58 rfl f_11_29 (kdK eT (kd_59 hL)) (by decide) (rfH eT (rf_59_17 hL)) ?_
  refine At_iload (pc' := 63) iX11_where_61 rfl rfl ?_
  obtain ⟨hn1, hv⟩ := hv
  refine At_iald (pc' := 64) iX11_where_63 rfl (kdH eT (kd_65 hL)) hn1 (show At (d + 4) MX11_where 64 [.ref 59, v1, .int x2, v3, v4, .int x5] [.int (gI h 65 x5.toNatClampNeg)] h Q from ?_)
  refine At_iload_n (pc' := 65) iX11_where_64 rfl rfl ?_
  refine At_icmp_eq (t := 74) (pc' := 68) iX11_where_65 (by decide) rfl (fun c65 => ?_) (fun c65 => ?_)
  · have hv := hv.1 c65
    refine At_iload (pc' := 76) iX11_where_74 rfl rfl ?_
    exact At_retI iX11_where_76 rfl hv
  · have hv := hv.2 c65
    refine At_iinc (v := nI 1) (L' := [.ref 59, v1, .int x2, v3, (if 0 = 0 ∧ v4.category = 2 then un else v4), .int (x5 + nI 1)]) (pc' := 71) iX11_where_68 rfl rfl (Nat.le_of_ble_eq_true rfl) (by decide) rfl ?_
    refine At_goto (t := 57) iX11_where_71 (by decide) ?_
    exact hv _ _ _
-- X5_read (calls X9_findTokens)
def L_X5_read_39 (d : Nat) (x2 : Int32) (x3 : Int32) (h : Hp) (Q : Option Value → Hp → Prop) : Prop := ∀ v1 : Value, At (d + 5) MX5_read 39 [.ref 2, v1, .int x2, .int x3] [] h Q
set_option maxRecDepth 20000 in
theorem b_X5_read {d : Nat} {T : HT} (hL : Lay T) {h : Hp} (eT : h.2.2 = T) (x1 : Int32)  {Q : Option Value → Hp → Prop} (hv : CallV (d + 4) MX9_findTokens [.ref 3] h (fun h4 => h4.2.2 = T ∧ (L_X5_read_39 d (nI 1) (nI 0) (sI (sI (sI (sI (sI h4 2 4 x1) 2 5 (-1)) 8 0 (nI 0)) 2 8 (nI 0)) 2 9 (nI 0)) Q))) : Call (d + 5) MX5_read [.ref 2, .int x1] h Q := by
  show At (d + 5) MX5_read 0 [.ref 2, .int x1, un, un] [] h Q
  refine At_aload_n (pc' := 1) iX5_read_0 rfl rfl ?_
  refine At_getR (pc' := 4) iX5_read_1 rfl f_5_21 (kdK eT (kd_2 hL)) (by decide) (rfH eT (rf_2_2 hL)) ?_
  refine At_virt (pc' := 7) iX5_read_4 rfl m_5_58 rfl rfl (kdK eT (kd_3 hL)) (Nat.le_of_ble_eq_true rfl) (Nat.le_of_ble_eq_true rfl) ?_
  refine At.mono (show CallV (d + 4) MX9_findTokens [.ref 3] h _ from hv) ?_
  rintro _ h4 ⟨rfl, eT4, hv⟩
  show At (d + 5) MX5_read 7 [.ref 2, .int x1, un, un] [] h4 Q
  refine At_aload_n (pc' := 8) iX5_read_7 rfl rfl ?_
  refine At_iload_n (pc' := 9) iX5_read_8 rfl rfl ?_
  refine At_putI (pc' := 12) iX5_read_9 rfl f_5_32 (kdK eT4 (kd_2 hL)) (Or.inl rfl) (by decide) ?_
  refine At_aload_n (pc' := 13) iX5_read_12 rfl rfl ?_
  refine At_iconst (v := (-1)) (pc' := 14) iX5_read_13 rfl (by decide) ?_
  refine At_putI (pc' := 17) iX5_read_14 rfl f_5_35 (kdK eT4 (kd_2 hL)) (Or.inl rfl) (by decide) ?_
  refine At_aload_n (pc' := 18) iX5_read_17 rfl rfl ?_
  refine At_getR (pc' := 21) iX5_read_18 rfl f_5_28 (kdK eT4 (kd_2 hL)) (by decide) (rfH eT4 (rf_2_3 hL)) ?_
  refine At_iconst (v := nI 0) (pc' := 22) iX5_read_21 rfl (by decide) ?_
  refine At_putI (pc' := 25) iX5_read_22 rfl f_5_61 (kdK eT4 (kd_8 hL)) (Or.inl rfl) (by decide) ?_
  refine At_aload_n (pc' := 26) iX5_read_25 rfl rfl ?_
  refine At_iconst (v := nI 0) (pc' := 27) iX5_read_26 rfl (by decide) ?_
  refine At_putZ (pc' := 30) iX5_read_27 rfl f_5_44 (kdK eT4 (kd_2 hL)) (Or.inl rfl) (by decide) (Or.inl rfl) ?_
  refine At_aload_n (pc' := 31) iX5_read_30 rfl rfl ?_
  refine At_iconst (v := nI 0) (pc' := 32) iX5_read_31 rfl (by decide) ?_
  refine At_putI (pc' := 35) iX5_read_32 rfl f_5_48 (kdK eT4 (kd_2 hL)) (Or.inl rfl) (by decide) ?_
  refine At_iconst (v := nI 1) (pc' := 36) iX5_read_35 rfl (by decide) ?_
  refine At_istore_n (L' := [.ref 2, .int x1, .int (nI 1), un]) (pc' := 37) iX5_read_36 rfl (Nat.le_of_ble_eq_true rfl) rfl ?_
  refine At_iconst (v := nI 0) (pc' := 38) iX5_read_37 rfl (by decide) ?_
  refine At_istore_n (L' := [.ref 2, .int x1, .int (nI 1), .int (nI 0)]) (pc' := 39) iX5_read_38 rfl (Nat.le_of_ble_eq_true rfl) rfl ?_
  exact hv _
set_option maxRecDepth 20000 in
theorem b_X5_read_39 {d : Nat} {T : HT} (hL : Lay T) {h : Hp} (eT : h.2.2 = T) (x2 : Int32) (x3 : Int32)  {Q : Option Value → Hp → Prop} (hv : ((x3 < (gI h 3 1)) → (((x2 = 0) → (Q (some (.int (b2i false))) h)) ∧ (¬ (x2 = 0) → ((p_X5_take h) ∧ ((((gI (w_X5_take h) 2 6) = 0) → ((p_X5_readEnd (w_X5_take h)) ∧ (Q (some (.int (b2i (r_X5_readEnd (w_X5_take h))))) (w_X5_readEnd (w_X5_take h))))) ∧ (¬ ((gI (w_X5_take h) 2 6) = 0) → (((gI (w_X5_take h) 2 6) = nI 5 → (CallZ (d + 4) MX5_readClosing [.ref 2] (w_X5_take h) (fun r149 h149 => h149.2.2 = T ∧ (L_X5_read_39 d (b2i r149) (x3 + nI 1) h149 Q)))) ∧ ((gI (w_X5_take h) 2 6) = nI 6 → (CallZ (d + 4) MX5_readLift [.ref 2] (w_X5_take h) (fun r117 h117 => h117.2.2 = T ∧ (L_X5_read_39 d (b2i r117) (x3 + nI 1) h117 Q)))) ∧ ((gI (w_X5_take h) 2 6) = nI 7 → ((p_X5_fail (nI 1) (w_X5_take h)) ∧ (L_X5_read_39 d (b2i (r_X5_fail (nI 1) (w_X5_take h))) (x3 + nI 1) (w_X5_fail (nI 1) (w_X5_take h)) Q))) ∧ ((gI (w_X5_take h) 2 6) = nI 8 → ((p_X5_fail (nI 1) (w_X5_take h)) ∧ (L_X5_read_39 d (b2i (r_X5_fail (nI 1) (w_X5_take h))) (x3 + nI 1) (w_X5_fail (nI 1) (w_X5_take h)) Q))) ∧ ((gI (w_X5_take h) 2 6) = nI 9 → (CallZ (d + 4) MX5_readSwap [.ref 2] (w_X5_take h) (fun r125 h125 => h125.2.2 = T ∧ (L_X5_read_39 d (b2i r125) (x3 + nI 1) h125 Q)))) ∧ ((gI (w_X5_take h) 2 6) = nI 10 → (CallZ (d + 4) MX5_readTurn [.ref 2] (w_X5_take h) (fun r133 h133 => h133.2.2 = T ∧ (L_X5_read_39 d (b2i r133) (x3 + nI 1) h133 Q)))) ∧ ((gI (w_X5_take h) 2 6) = nI 11 → (CallZ (d + 4) MX5_readTimes [.ref 2] (w_X5_take h) (fun r141 h141 => h141.2.2 = T ∧ (L_X5_read_39 d (b2i r141) (x3 + nI 1) h141 Q)))) ∧ (((gI (w_X5_take h) 2 6).toInt < 5 ∨ 11 < (gI (w_X5_take h) 2 6).toInt) → ((p_X5_fail (nI 1) (w_X5_take h)) ∧ (L_X5_read_39 d (b2i (r_X5_fail (nI 1) (w_X5_take h))) (x3 + nI 1) (w_X5_fail (nI 1) (w_X5_take h)) Q)))))))))) ∧ (¬ (x3 < (gI h 3 1)) → (Q (some (.int (b2i false))) h))) : L_X5_read_39 d x2 x3 h Q := by
  intro v1
  refine At_iload_n (pc' := 40) iX5_read_39 rfl rfl ?_
  refine At_aload_n (pc' := 41) iX5_read_40 rfl rfl ?_
  refine At_getR (pc' := 44) iX5_read_41 rfl f_5_21 (kdK eT (kd_2 hL)) (by decide) (rfH eT (rf_2_2 hL)) ?_
  refine At_getI (pc' := 47) iX5_read_44 rfl f_5_64 (kdK eT (kd_3 hL)) (by decide) ?_
  refine At_icmp_ge (t := 168) (pc' := 50) iX5_read_47 (by decide) rfl (fun c47 => ?_) (fun c47 => ?_)
  · have hv := hv.2 c47
    refine At_iconst (v := nI 0) (pc' := 169) iX5_read_168 rfl (by decide) ?_
    exact At_retF iX5_read_169 rfl hv
  · have hv := hv.1 c47
    refine At_iload_n (pc' := 51) iX5_read_50 rfl rfl ?_
    refine At_if_eq (t := 168) (pc' := 54) iX5_read_51 (by decide) rfl (fun c51 => ?_) (fun c51 => ?_)
    · have hv := hv.1 c51
      refine At_iconst (v := nI 0) (pc' := 169) iX5_read_168 rfl (by decide) ?_
      exact At_retF iX5_read_169 rfl hv
    · have hv := hv.2 c51
      refine At_aload_n (pc' := 55) iX5_read_54 rfl rfl ?_
      refine At_virt (pc' := 58) iX5_read_55 rfl m_5_67 rfl rfl (kdK eT (kd_2 hL)) (Nat.le_of_ble_eq_true rfl) (Nat.le_of_ble_eq_true rfl) ?_
      obtain ⟨hn1, hv⟩ := hv
      refine c_X5_take (h := h) hL eT   hn1 (show At (d + 5) MX5_read 58 [.ref 2, v1, .int x2, .int x3] [] (w_X5_take h) Q from ?_)
      refine At_aload_n (pc' := 59) iX5_read_58 rfl rfl ?_
      refine At_getI (pc' := 62) iX5_read_59 rfl f_5_38 (kdK ((wT_X5_take h).trans eT) (kd_2 hL)) (by decide) ?_
      refine At_if_ne (t := 70) (pc' := 65) iX5_read_62 (by decide) rfl (fun c62 => ?_) (fun c62 => ?_)
      · have hv := hv.2 c62
        refine At_aload_n (pc' := 71) iX5_read_70 rfl rfl ?_
        refine At_getI (pc' := 74) iX5_read_71 rfl f_5_38 (kdK ((wT_X5_take h).trans eT) (kd_2 hL)) (by decide) ?_
        rcases tabCs (gI (w_X5_take h) 2 6) 5 6 (by decide) with ct74 | ⟨kt, hkt, ct74⟩
        · have hv := hv.2.2.2.2.2.2.2 ct74
          refine At_tabOut (t := 156) iX5_read_74 ct74 (by decide) ?_
          refine At_aload_n (pc' := 157) iX5_read_156 rfl rfl ?_
          refine At_iconst (v := nI 1) (pc' := 158) iX5_read_157 rfl (by decide) ?_
          refine At_virt (pc' := 161) iX5_read_158 rfl m_5_89 rfl rfl (kdK ((wT_X5_take h).trans eT) (kd_2 hL)) (Nat.le_of_ble_eq_true rfl) (Nat.le_of_ble_eq_true rfl) ?_
          obtain ⟨hn2, hv⟩ := hv
          refine c_X5_fail (h := w_X5_take h) hL ((wT_X5_take h).trans eT) (nI 1)  hn2 (show At (d + 5) MX5_read 161 [.ref 2, v1, .int x2, .int x3] [.int (b2i (r_X5_fail (nI 1) (w_X5_take h)))] (w_X5_fail (nI 1) (w_X5_take h)) Q from ?_)
          refine At_istore_n (L' := [.ref 2, (if 0 = 0 ∧ v1.category = 2 then un else v1), .int (b2i (r_X5_fail (nI 1) (w_X5_take h))), .int x3]) (pc' := 162) iX5_read_161 rfl (Nat.le_of_ble_eq_true rfl) rfl ?_
          refine At_iinc (v := nI 1) (L' := [.ref 2, (if 0 = 0 ∧ v1.category = 2 then un else v1), .int (b2i (r_X5_fail (nI 1) (w_X5_take h))), .int (x3 + nI 1)]) (pc' := 165) iX5_read_162 rfl rfl (Nat.le_of_ble_eq_true rfl) (by decide) rfl ?_
          refine At_goto (t := 39) iX5_read_165 (by decide) ?_
          exact hv _
        · match kt, hkt, ct74 with
          | 0, _, ct74 =>
            have hv := hv.1 ct74
            refine At_tabC (t := 148) (v := nI 5) ct74 iX5_read_74 (by decide) rfl (by decide) ?_
            refine At_aload_n (pc' := 149) iX5_read_148 rfl rfl ?_
            refine At_virt (pc' := 152) iX5_read_149 rfl m_5_86 rfl rfl (kdK ((wT_X5_take h).trans eT) (kd_2 hL)) (Nat.le_of_ble_eq_true rfl) (Nat.le_of_ble_eq_true rfl) ?_
            refine At.mono (show CallZ (d + 4) MX5_readClosing [.ref 2] (w_X5_take h) _ from hv) ?_
            rintro _ h149 ⟨r149, rfl, eT149, hv⟩
            show At (d + 5) MX5_read 152 [.ref 2, v1, .int x2, .int x3] [.int (b2i r149)] h149 Q
            refine At_istore_n (L' := [.ref 2, (if 0 = 0 ∧ v1.category = 2 then un else v1), .int (b2i r149), .int x3]) (pc' := 153) iX5_read_152 rfl (Nat.le_of_ble_eq_true rfl) rfl ?_
            refine At_goto (t := 162) iX5_read_153 (by decide) ?_
            refine At_iinc (v := nI 1) (L' := [.ref 2, (if 0 = 0 ∧ v1.category = 2 then un else v1), .int (b2i r149), .int (x3 + nI 1)]) (pc' := 165) iX5_read_162 rfl rfl (Nat.le_of_ble_eq_true rfl) (by decide) rfl ?_
            refine At_goto (t := 39) iX5_read_165 (by decide) ?_
            exact hv _
          | 1, _, ct74 =>
            have hv := hv.2.1 ct74
            refine At_tabC (t := 116) (v := nI 6) ct74 iX5_read_74 (by decide) rfl (by decide) ?_
            refine At_aload_n (pc' := 117) iX5_read_116 rfl rfl ?_
            refine At_virt (pc' := 120) iX5_read_117 rfl m_5_74 rfl rfl (kdK ((wT_X5_take h).trans eT) (kd_2 hL)) (Nat.le_of_ble_eq_true rfl) (Nat.le_of_ble_eq_true rfl) ?_
            refine At.mono (show CallZ (d + 4) MX5_readLift [.ref 2] (w_X5_take h) _ from hv) ?_
            rintro _ h117 ⟨r117, rfl, eT117, hv⟩
            show At (d + 5) MX5_read 120 [.ref 2, v1, .int x2, .int x3] [.int (b2i r117)] h117 Q
            refine At_istore_n (L' := [.ref 2, (if 0 = 0 ∧ v1.category = 2 then un else v1), .int (b2i r117), .int x3]) (pc' := 121) iX5_read_120 rfl (Nat.le_of_ble_eq_true rfl) rfl ?_
            refine At_goto (t := 162) iX5_read_121 (by decide) ?_
            refine At_iinc (v := nI 1) (L' := [.ref 2, (if 0 = 0 ∧ v1.category = 2 then un else v1), .int (b2i r117), .int (x3 + nI 1)]) (pc' := 165) iX5_read_162 rfl rfl (Nat.le_of_ble_eq_true rfl) (by decide) rfl ?_
            refine At_goto (t := 39) iX5_read_165 (by decide) ?_
            exact hv _
          | 2, _, ct74 =>
            have hv := hv.2.2.1 ct74
            refine At_tabC (t := 156) (v := nI 7) ct74 iX5_read_74 (by decide) rfl (by decide) ?_
            refine At_aload_n (pc' := 157) iX5_read_156 rfl rfl ?_
            refine At_iconst (v := nI 1) (pc' := 158) iX5_read_157 rfl (by decide) ?_
            refine At_virt (pc' := 161) iX5_read_158 rfl m_5_89 rfl rfl (kdK ((wT_X5_take h).trans eT) (kd_2 hL)) (Nat.le_of_ble_eq_true rfl) (Nat.le_of_ble_eq_true rfl) ?_
            obtain ⟨hn3, hv⟩ := hv
            refine c_X5_fail (h := w_X5_take h) hL ((wT_X5_take h).trans eT) (nI 1)  hn3 (show At (d + 5) MX5_read 161 [.ref 2, v1, .int x2, .int x3] [.int (b2i (r_X5_fail (nI 1) (w_X5_take h)))] (w_X5_fail (nI 1) (w_X5_take h)) Q from ?_)
            refine At_istore_n (L' := [.ref 2, (if 0 = 0 ∧ v1.category = 2 then un else v1), .int (b2i (r_X5_fail (nI 1) (w_X5_take h))), .int x3]) (pc' := 162) iX5_read_161 rfl (Nat.le_of_ble_eq_true rfl) rfl ?_
            refine At_iinc (v := nI 1) (L' := [.ref 2, (if 0 = 0 ∧ v1.category = 2 then un else v1), .int (b2i (r_X5_fail (nI 1) (w_X5_take h))), .int (x3 + nI 1)]) (pc' := 165) iX5_read_162 rfl rfl (Nat.le_of_ble_eq_true rfl) (by decide) rfl ?_
            refine At_goto (t := 39) iX5_read_165 (by decide) ?_
            exact hv _
          | 3, _, ct74 =>
            have hv := hv.2.2.2.1 ct74
            refine At_tabC (t := 156) (v := nI 8) ct74 iX5_read_74 (by decide) rfl (by decide) ?_
            refine At_aload_n (pc' := 157) iX5_read_156 rfl rfl ?_
            refine At_iconst (v := nI 1) (pc' := 158) iX5_read_157 rfl (by decide) ?_
            refine At_virt (pc' := 161) iX5_read_158 rfl m_5_89 rfl rfl (kdK ((wT_X5_take h).trans eT) (kd_2 hL)) (Nat.le_of_ble_eq_true rfl) (Nat.le_of_ble_eq_true rfl) ?_
            obtain ⟨hn4, hv⟩ := hv
            refine c_X5_fail (h := w_X5_take h) hL ((wT_X5_take h).trans eT) (nI 1)  hn4 (show At (d + 5) MX5_read 161 [.ref 2, v1, .int x2, .int x3] [.int (b2i (r_X5_fail (nI 1) (w_X5_take h)))] (w_X5_fail (nI 1) (w_X5_take h)) Q from ?_)
            refine At_istore_n (L' := [.ref 2, (if 0 = 0 ∧ v1.category = 2 then un else v1), .int (b2i (r_X5_fail (nI 1) (w_X5_take h))), .int x3]) (pc' := 162) iX5_read_161 rfl (Nat.le_of_ble_eq_true rfl) rfl ?_
            refine At_iinc (v := nI 1) (L' := [.ref 2, (if 0 = 0 ∧ v1.category = 2 then un else v1), .int (b2i (r_X5_fail (nI 1) (w_X5_take h))), .int (x3 + nI 1)]) (pc' := 165) iX5_read_162 rfl rfl (Nat.le_of_ble_eq_true rfl) (by decide) rfl ?_
            refine At_goto (t := 39) iX5_read_165 (by decide) ?_
            exact hv _
          | 4, _, ct74 =>
            have hv := hv.2.2.2.2.1 ct74
            refine At_tabC (t := 124) (v := nI 9) ct74 iX5_read_74 (by decide) rfl (by decide) ?_
            refine At_aload_n (pc' := 125) iX5_read_124 rfl rfl ?_
            refine At_virt (pc' := 128) iX5_read_125 rfl m_5_77 rfl rfl (kdK ((wT_X5_take h).trans eT) (kd_2 hL)) (Nat.le_of_ble_eq_true rfl) (Nat.le_of_ble_eq_true rfl) ?_
            refine At.mono (show CallZ (d + 4) MX5_readSwap [.ref 2] (w_X5_take h) _ from hv) ?_
            rintro _ h125 ⟨r125, rfl, eT125, hv⟩
            show At (d + 5) MX5_read 128 [.ref 2, v1, .int x2, .int x3] [.int (b2i r125)] h125 Q
            refine At_istore_n (L' := [.ref 2, (if 0 = 0 ∧ v1.category = 2 then un else v1), .int (b2i r125), .int x3]) (pc' := 129) iX5_read_128 rfl (Nat.le_of_ble_eq_true rfl) rfl ?_
            refine At_goto (t := 162) iX5_read_129 (by decide) ?_
            refine At_iinc (v := nI 1) (L' := [.ref 2, (if 0 = 0 ∧ v1.category = 2 then un else v1), .int (b2i r125), .int (x3 + nI 1)]) (pc' := 165) iX5_read_162 rfl rfl (Nat.le_of_ble_eq_true rfl) (by decide) rfl ?_
            refine At_goto (t := 39) iX5_read_165 (by decide) ?_
            exact hv _
          | 5, _, ct74 =>
            have hv := hv.2.2.2.2.2.1 ct74
            refine At_tabC (t := 132) (v := nI 10) ct74 iX5_read_74 (by decide) rfl (by decide) ?_
            refine At_aload_n (pc' := 133) iX5_read_132 rfl rfl ?_
            refine At_virt (pc' := 136) iX5_read_133 rfl m_5_80 rfl rfl (kdK ((wT_X5_take h).trans eT) (kd_2 hL)) (Nat.le_of_ble_eq_true rfl) (Nat.le_of_ble_eq_true rfl) ?_
            refine At.mono (show CallZ (d + 4) MX5_readTurn [.ref 2] (w_X5_take h) _ from hv) ?_
            rintro _ h133 ⟨r133, rfl, eT133, hv⟩
            show At (d + 5) MX5_read 136 [.ref 2, v1, .int x2, .int x3] [.int (b2i r133)] h133 Q
            refine At_istore_n (L' := [.ref 2, (if 0 = 0 ∧ v1.category = 2 then un else v1), .int (b2i r133), .int x3]) (pc' := 137) iX5_read_136 rfl (Nat.le_of_ble_eq_true rfl) rfl ?_
            refine At_goto (t := 162) iX5_read_137 (by decide) ?_
            refine At_iinc (v := nI 1) (L' := [.ref 2, (if 0 = 0 ∧ v1.category = 2 then un else v1), .int (b2i r133), .int (x3 + nI 1)]) (pc' := 165) iX5_read_162 rfl rfl (Nat.le_of_ble_eq_true rfl) (by decide) rfl ?_
            refine At_goto (t := 39) iX5_read_165 (by decide) ?_
            exact hv _
          | 6, _, ct74 =>
            have hv := hv.2.2.2.2.2.2.1 ct74
            refine At_tabC (t := 140) (v := nI 11) ct74 iX5_read_74 (by decide) rfl (by decide) ?_
            refine At_aload_n (pc' := 141) iX5_read_140 rfl rfl ?_
            refine At_virt (pc' := 144) iX5_read_141 rfl m_5_83 rfl rfl (kdK ((wT_X5_take h).trans eT) (kd_2 hL)) (Nat.le_of_ble_eq_true rfl) (Nat.le_of_ble_eq_true rfl) ?_
            refine At.mono (show CallZ (d + 4) MX5_readTimes [.ref 2] (w_X5_take h) _ from hv) ?_
            rintro _ h141 ⟨r141, rfl, eT141, hv⟩
            show At (d + 5) MX5_read 144 [.ref 2, v1, .int x2, .int x3] [.int (b2i r141)] h141 Q
            refine At_istore_n (L' := [.ref 2, (if 0 = 0 ∧ v1.category = 2 then un else v1), .int (b2i r141), .int x3]) (pc' := 145) iX5_read_144 rfl (Nat.le_of_ble_eq_true rfl) rfl ?_
            refine At_goto (t := 162) iX5_read_145 (by decide) ?_
            refine At_iinc (v := nI 1) (L' := [.ref 2, (if 0 = 0 ∧ v1.category = 2 then un else v1), .int (b2i r141), .int (x3 + nI 1)]) (pc' := 165) iX5_read_162 rfl rfl (Nat.le_of_ble_eq_true rfl) (by decide) rfl ?_
            refine At_goto (t := 39) iX5_read_165 (by decide) ?_
            exact hv _
          | k + 7, hkt, _ => exact absurd hkt (by omega)
      · have hv := hv.1 c62
        refine At_aload_n (pc' := 66) iX5_read_65 rfl rfl ?_
        refine At_virt (pc' := 69) iX5_read_66 rfl m_5_70 rfl rfl (kdK ((wT_X5_take h).trans eT) (kd_2 hL)) (Nat.le_of_ble_eq_true rfl) (Nat.le_of_ble_eq_true rfl) ?_
        obtain ⟨hn5, hv⟩ := hv
        refine c_X5_readEnd (h := w_X5_take h) hL ((wT_X5_take h).trans eT)   hn5 (show At (d + 5) MX5_read 69 [.ref 2, v1, .int x2, .int x3] [.int (b2i (r_X5_readEnd (w_X5_take h)))] (w_X5_readEnd (w_X5_take h)) Q from ?_)
        exact At_retZ iX5_read_69 rfl (b2i_01 _) hv
-- X10_alike (calls X1_startAnew)
set_option maxRecDepth 20000 in
theorem b_X10_alike {d : Nat} {T : HT} (hL : Lay T) {h : Hp} (eT : h.2.2 = T) (x1 : Int32) (x2 : Int32)  {Q : Option Value → Hp → Prop} (hv : (((r_X10_isSong x1) = true) → ((((r_X10_isSong x2) = true) → (CallV (d + 4) MX1_startAnew [.ref 53, .int (gI h 12 0)] h (fun h27 => h27.2.2 = T ∧ (∃ k42 : Nat, x1 = nI k42 ∧ k42 < 4 ∧ (CallV (d + 4) MX1_singInThought [.ref 53, .ref (20 + 2 * k42), .long (gJ h27 12 2), .int (gI h27 12 0)] h27 (fun h57 => h57.2.2 = T ∧ (CallV (d + 4) MX1_startAnew [.ref 56, .int (gI h57 12 0)] h57 (fun h71 => h71.2.2 = T ∧ (∃ k86 : Nat, x2 = nI k86 ∧ k86 < 4 ∧ (CallV (d + 4) MX1_singInThought [.ref 56, .ref (20 + 2 * k86), .long (gJ h71 12 2), .int (gI h71 12 0)] h71 (fun h101 => h101.2.2 = T ∧ ((((lg_cmp (gJ h101 53 0) (gJ h101 56 0)) = 0) → (CallZ (d + 4) MX1_isOverLike [.ref 53, .ref 56] h101 (fun r132 h132 => h132.2.2 = T ∧ (((r132 = true) → (Q (some (.int (nI 2))) h132)) ∧ (¬ (r132 = true) → (Q (some (.int (nI 1))) h132)))))) ∧ (¬ ((lg_cmp (gJ h101 53 0) (gJ h101 56 0)) = 0) → (Q (some (.int (nI 0))) h101)))))))))))))) ∧ (¬ ((r_X10_isSong x2) = true) → (Q (some (.int (-1))) h)))) ∧ (¬ ((r_X10_isSong x1) = true) → (Q (some (.int (-1))) h))) : Call (d + 5) MX10_alike [.ref 1, .int x1, .int x2] h Q := by
  show At (d + 5) MX10_alike 0 [.ref 1, .int x1, .int x2] [] h Q
  refine At_iload_n (pc' := 1) iX10_alike_0 rfl rfl ?_
  refine At_stat (pc' := 4) iX10_alike_1 rfl m_10_106 rfl rfl (Nat.le_of_ble_eq_true rfl) (Nat.le_of_ble_eq_true rfl) (Nat.le_of_ble_eq_true rfl) ?_
  refine c_X10_isSong (h := h) x1   (show At (d + 5) MX10_alike 4 [.ref 1, .int x1, .int x2] [.int (b2i (r_X10_isSong x1))] h Q from ?_)
  refine At_zeq (t := 14) (pc' := 7) iX10_alike_4 (by decide) rfl (fun c4 => ?_) (fun c4 => ?_)
  · have hv := hv.2 c4
    refine At_iconst (v := (-1)) (pc' := 15) iX10_alike_14 rfl (by decide) ?_
    exact At_retI iX10_alike_15 rfl hv
  · have hv := hv.1 c4
    refine At_iload_n (pc' := 8) iX10_alike_7 rfl rfl ?_
    refine At_stat (pc' := 11) iX10_alike_8 rfl m_10_106 rfl rfl (Nat.le_of_ble_eq_true rfl) (Nat.le_of_ble_eq_true rfl) (Nat.le_of_ble_eq_true rfl) ?_
    refine c_X10_isSong (h := h) x2   (show At (d + 5) MX10_alike 11 [.ref 1, .int x1, .int x2] [.int (b2i (r_X10_isSong x2))] h Q from ?_)
    refine At_zne (t := 16) (pc' := 14) iX10_alike_11 (by decide) rfl (fun c11 => ?_) (fun c11 => ?_)
    · have hv := hv.1 c11
      refine At_aload_n (pc' := 17) iX10_alike_16 rfl rfl ?_
      refine At_getR (pc' := 20) iX10_alike_17 rfl f_10_47 (kdK eT (kd_1 hL)) (by decide) (rfH eT (rf_1_5 hL)) ?_
      refine At_aload_n (pc' := 21) iX10_alike_20 rfl rfl ?_
      refine At_getR (pc' := 24) iX10_alike_21 rfl f_10_19 (kdK eT (kd_1 hL)) (by decide) (rfH eT (rf_1_1 hL)) ?_
      refine At_getI (pc' := 27) iX10_alike_24 rfl f_10_109 (kdK eT (kd_12 hL)) (by decide) ?_
      refine At_virt (pc' := 30) iX10_alike_27 rfl m_10_244 rfl rfl (kdK eT (kd_53 hL)) (Nat.le_of_ble_eq_true rfl) (Nat.le_of_ble_eq_true rfl) ?_
      refine At.mono (show CallV (d + 4) MX1_startAnew [.ref 53, .int (gI h 12 0)] h _ from hv) ?_
      rintro _ h27 ⟨rfl, eT27, hv⟩
      show At (d + 5) MX10_alike 30 [.ref 1, .int x1, .int x2] [] h27 Q
      refine At_aload_n (pc' := 31) iX10_alike_30 rfl rfl ?_
      refine At_getR (pc' := 34) iX10_alike_31 rfl f_10_47 (kdK eT27 (kd_1 hL)) (by decide) (rfH eT27 (rf_1_5 hL)) ?_
      refine At_aload_n (pc' := 35) iX10_alike_34 rfl rfl ?_
      refine At_getR (pc' := 38) iX10_alike_35 rfl f_10_19 (kdK eT27 (kd_1 hL)) (by decide) (rfH eT27 (rf_1_1 hL)) ?_
      refine At_getR (pc' := 41) iX10_alike_38 rfl f_10_115 (kdK eT27 (kd_12 hL)) (by decide) (rfH eT27 (rf_12_5 hL)) ?_
      refine At_iload_n (pc' := 42) iX10_alike_41 rfl rfl ?_
      obtain ⟨k42, e42, hk42, hv⟩ := hv
      refine At_aald (b := (20 + 2 * k42)) (pc' := 43) iX10_alike_42 rfl (kdH eT27 (kd_14 hL)) (by decide) (by rw [e42]; exact inB_nI hk42 (by decide)) (by rw [e42, nI_clamp (by omega)]; exact rfH eT27 (rf_song hL hk42)) ?_
      refine At_aload_n (pc' := 44) iX10_alike_43 rfl rfl ?_
      refine At_getR (pc' := 47) iX10_alike_44 rfl f_10_19 (kdK eT27 (kd_1 hL)) (by decide) (rfH eT27 (rf_1_1 hL)) ?_
      refine At_getJ (pc' := 50) iX10_alike_47 rfl f_10_78 (kdK eT27 (kd_12 hL)) (by decide) ?_
      refine At_aload_n (pc' := 51) iX10_alike_50 rfl rfl ?_
      refine At_getR (pc' := 54) iX10_alike_51 rfl f_10_19 (kdK eT27 (kd_1 hL)) (by decide) (rfH eT27 (rf_1_1 hL)) ?_
      refine At_getI (pc' := 57) iX10_alike_54 rfl f_10_109 (kdK eT27 (kd_12 hL)) (by decide) ?_
      refine At_virt (pc' := 60) iX10_alike_57 rfl m_10_245 rfl rfl (kdK eT27 (kd_53 hL)) (Nat.le_of_ble_eq_true rfl) (Nat.le_of_ble_eq_true rfl) ?_
      refine At.mono (show CallV (d + 4) MX1_singInThought [.ref 53, .ref (20 + 2 * k42), .long (gJ h27 12 2), .int (gI h27 12 0)] h27 _ from hv) ?_
      rintro _ h57 ⟨rfl, eT57, hv⟩
      show At (d + 5) MX10_alike 60 [.ref 1, .int x1, .int x2] [] h57 Q
      refine At_aload_n (pc' := 61) iX10_alike_60 rfl rfl ?_
      refine At_getR (pc' := 64) iX10_alike_61 rfl f_10_51 (kdK eT57 (kd_1 hL)) (by decide) (rfH eT57 (rf_1_6 hL)) ?_
      refine At_aload_n (pc' := 65) iX10_alike_64 rfl rfl ?_
      refine At_getR (pc' := 68) iX10_alike_65 rfl f_10_19 (kdK eT57 (kd_1 hL)) (by decide) (rfH eT57 (rf_1_1 hL)) ?_
      refine At_getI (pc' := 71) iX10_alike_68 rfl f_10_109 (kdK eT57 (kd_12 hL)) (by decide) ?_
      refine At_virt (pc' := 74) iX10_alike_71 rfl m_10_244 rfl rfl (kdK eT57 (kd_56 hL)) (Nat.le_of_ble_eq_true rfl) (Nat.le_of_ble_eq_true rfl) ?_
      refine At.mono (show CallV (d + 4) MX1_startAnew [.ref 56, .int (gI h57 12 0)] h57 _ from hv) ?_
      rintro _ h71 ⟨rfl, eT71, hv⟩
      show At (d + 5) MX10_alike 74 [.ref 1, .int x1, .int x2] [] h71 Q
      refine At_aload_n (pc' := 75) iX10_alike_74 rfl rfl ?_
      refine At_getR (pc' := 78) iX10_alike_75 rfl f_10_51 (kdK eT71 (kd_1 hL)) (by decide) (rfH eT71 (rf_1_6 hL)) ?_
      refine At_aload_n (pc' := 79) iX10_alike_78 rfl rfl ?_
      refine At_getR (pc' := 82) iX10_alike_79 rfl f_10_19 (kdK eT71 (kd_1 hL)) (by decide) (rfH eT71 (rf_1_1 hL)) ?_
      refine At_getR (pc' := 85) iX10_alike_82 rfl f_10_115 (kdK eT71 (kd_12 hL)) (by decide) (rfH eT71 (rf_12_5 hL)) ?_
      refine At_iload_n (pc' := 86) iX10_alike_85 rfl rfl ?_
      obtain ⟨k86, e86, hk86, hv⟩ := hv
      refine At_aald (b := (20 + 2 * k86)) (pc' := 87) iX10_alike_86 rfl (kdH eT71 (kd_14 hL)) (by decide) (by rw [e86]; exact inB_nI hk86 (by decide)) (by rw [e86, nI_clamp (by omega)]; exact rfH eT71 (rf_song hL hk86)) ?_
      refine At_aload_n (pc' := 88) iX10_alike_87 rfl rfl ?_
      refine At_getR (pc' := 91) iX10_alike_88 rfl f_10_19 (kdK eT71 (kd_1 hL)) (by decide) (rfH eT71 (rf_1_1 hL)) ?_
      refine At_getJ (pc' := 94) iX10_alike_91 rfl f_10_78 (kdK eT71 (kd_12 hL)) (by decide) ?_
      refine At_aload_n (pc' := 95) iX10_alike_94 rfl rfl ?_
      refine At_getR (pc' := 98) iX10_alike_95 rfl f_10_19 (kdK eT71 (kd_1 hL)) (by decide) (rfH eT71 (rf_1_1 hL)) ?_
      refine At_getI (pc' := 101) iX10_alike_98 rfl f_10_109 (kdK eT71 (kd_12 hL)) (by decide) ?_
      refine At_virt (pc' := 104) iX10_alike_101 rfl m_10_245 rfl rfl (kdK eT71 (kd_56 hL)) (Nat.le_of_ble_eq_true rfl) (Nat.le_of_ble_eq_true rfl) ?_
      refine At.mono (show CallV (d + 4) MX1_singInThought [.ref 56, .ref (20 + 2 * k86), .long (gJ h71 12 2), .int (gI h71 12 0)] h71 _ from hv) ?_
      rintro _ h101 ⟨rfl, eT101, hv⟩
      show At (d + 5) MX10_alike 104 [.ref 1, .int x1, .int x2] [] h101 Q
      refine At_aload_n (pc' := 105) iX10_alike_104 rfl rfl ?_
      refine At_getR (pc' := 108) iX10_alike_105 rfl f_10_47 (kdK eT101 (kd_1 hL)) (by decide) (rfH eT101 (rf_1_5 hL)) ?_
      refine At_getJ (pc' := 111) iX10_alike_108 rfl f_10_146 (kdK eT101 (kd_53 hL)) (by decide) ?_
      refine At_aload_n (pc' := 112) iX10_alike_111 rfl rfl ?_
      refine At_getR (pc' := 115) iX10_alike_112 rfl f_10_51 (kdK eT101 (kd_1 hL)) (by decide) (rfH eT101 (rf_1_6 hL)) ?_
      refine At_getJ (pc' := 118) iX10_alike_115 rfl f_10_146 (kdK eT101 (kd_56 hL)) (by decide) ?_
      refine At_lcmp (pc' := 119) iX10_alike_118 rfl ?_
      refine At_if_eq (t := 124) (pc' := 122) iX10_alike_119 (by decide) rfl (fun c119 => ?_) (fun c119 => ?_)
      · have hv := hv.1 c119
        refine At_aload_n (pc' := 125) iX10_alike_124 rfl rfl ?_
        refine At_getR (pc' := 128) iX10_alike_125 rfl f_10_47 (kdK eT101 (kd_1 hL)) (by decide) (rfH eT101 (rf_1_5 hL)) ?_
        refine At_aload_n (pc' := 129) iX10_alike_128 rfl rfl ?_
        refine At_getR (pc' := 132) iX10_alike_129 rfl f_10_51 (kdK eT101 (kd_1 hL)) (by decide) (rfH eT101 (rf_1_6 hL)) ?_
        refine At_virt (pc' := 135) iX10_alike_132 rfl m_10_249 rfl rfl (kdK eT101 (kd_53 hL)) (Nat.le_of_ble_eq_true rfl) (Nat.le_of_ble_eq_true rfl) ?_
        refine At.mono (show CallZ (d + 4) MX1_isOverLike [.ref 53, .ref 56] h101 _ from hv) ?_
        rintro _ h132 ⟨r132, rfl, eT132, hv⟩
        show At (d + 5) MX10_alike 135 [.ref 1, .int x1, .int x2] [.int (b2i r132)] h132 Q
        refine At_zeq (t := 142) (pc' := 138) iX10_alike_135 (by decide) rfl (fun c135 => ?_) (fun c135 => ?_)
        · have hv := hv.2 c135
          refine At_iconst (v := nI 1) (pc' := 143) iX10_alike_142 rfl (by decide) ?_
          exact At_retI iX10_alike_143 rfl hv
        · have hv := hv.1 c135
          refine At_iconst (v := nI 2) (pc' := 139) iX10_alike_138 rfl (by decide) ?_
          refine At_goto (t := 143) iX10_alike_139 (by decide) ?_
          exact At_retI iX10_alike_143 rfl hv
      · have hv := hv.2 c119
        refine At_iconst (v := nI 0) (pc' := 123) iX10_alike_122 rfl (by decide) ?_
        exact At_retI iX10_alike_123 rfl hv
    · have hv := hv.2 c11
      refine At_iconst (v := (-1)) (pc' := 15) iX10_alike_14 rfl (by decide) ?_
      exact At_retI iX10_alike_15 rfl hv
-- X10_back (ex)
set_option maxRecDepth 20000 in
theorem b_X10_back {d : Nat} {T : HT} (hL : Lay T) {h : Hp} (eT : h.2.2 = T) (x1 : Int32) (x2 : Int32)  {Q : Option Value → Hp → Prop} (hv : (((r_X10_isSong x1) = true) → (((x2 < 0) → (Q (some (.int (-1))) h)) ∧ (¬ (x2 < 0) → ((((nI 1) < x2) → (Q (some (.int (-1))) h)) ∧ (¬ ((nI 1) < x2) → (((x2 = 0) → (∃ k30 : Nat, x1 = nI k30 ∧ k30 < 4 ∧ (CallI (d + 4) MX7_singingsBack [.ref (20 + 2 * k30), .long (gJ h 15 0), .long (gJ h 12 2), .int (gI h 12 0)] h (fun r55 h55 => h55.2.2 = T ∧ (Q (some (.int r55)) h55))))) ∧ (¬ (x2 = 0) → (∃ k67 : Nat, x1 = nI k67 ∧ k67 < 4 ∧ (CallJ (d + 4) MX8_seen [.ref 12, .long (gJ h 15 0)] h (fun r82 h82 => h82.2.2 = T ∧ (CallI (d + 4) MX7_singingsBack [.ref (20 + 2 * k67), .long r82, .long (-81985529216486896 : Int64), .int (gI h82 12 0)] h82 (fun r95 h95 => h95.2.2 = T ∧ (Q (some (.int r95)) h95))))))))))))) ∧ (¬ ((r_X10_isSong x1) = true) → (Q (some (.int (-1))) h))) : Call (d + 5) MX10_back [.ref 1, .int x1, .int x2] h Q := by
  show At (d + 5) MX10_back 0 [.ref 1, .int x1, .int x2] [] h Q
  refine At_iload_n (pc' := 1) iX10_back_0 rfl rfl ?_
  refine At_stat (pc' := 4) iX10_back_1 rfl m_10_106 rfl rfl (Nat.le_of_ble_eq_true rfl) (Nat.le_of_ble_eq_true rfl) (Nat.le_of_ble_eq_true rfl) ?_
  refine c_X10_isSong (h := h) x1   (show At (d + 5) MX10_back 4 [.ref 1, .int x1, .int x2] [.int (b2i (r_X10_isSong x1))] h Q from ?_)
  refine At_zeq (t := 16) (pc' := 7) iX10_back_4 (by decide) rfl (fun c4 => ?_) (fun c4 => ?_)
  · have hv := hv.2 c4
    refine At_iconst (v := (-1)) (pc' := 17) iX10_back_16 rfl (by decide) ?_
    exact At_retI iX10_back_17 rfl hv
  · have hv := hv.1 c4
    refine At_iload_n (pc' := 8) iX10_back_7 rfl rfl ?_
    refine At_if_lt (t := 16) (pc' := 11) iX10_back_8 (by decide) rfl (fun c8 => ?_) (fun c8 => ?_)
    · have hv := hv.1 c8
      refine At_iconst (v := (-1)) (pc' := 17) iX10_back_16 rfl (by decide) ?_
      exact At_retI iX10_back_17 rfl hv
    · have hv := hv.2 c8
      refine At_iload_n (pc' := 12) iX10_back_11 rfl rfl ?_
      refine At_iconst (v := nI 1) (pc' := 13) iX10_back_12 rfl (by decide) ?_
      refine At_icmp_le (t := 18) (pc' := 16) iX10_back_13 (by decide) rfl (fun c13 => ?_) (fun c13 => ?_)
      · have hv := hv.2 c13
        refine At_iload_n (pc' := 19) iX10_back_18 rfl rfl ?_
        refine At_if_ne (t := 59) (pc' := 22) iX10_back_19 (by decide) rfl (fun c19 => ?_) (fun c19 => ?_)
        · have hv := hv.2 c19
          refine At_aload_n (pc' := 60) iX10_back_59 rfl rfl ?_
          refine At_getR (pc' := 63) iX10_back_60 rfl f_10_19 (kdK eT (kd_1 hL)) (by decide) (rfH eT (rf_1_1 hL)) ?_
          refine At_getR (pc' := 66) iX10_back_63 rfl f_10_115 (kdK eT (kd_12 hL)) (by decide) (rfH eT (rf_12_5 hL)) ?_
          refine At_iload_n (pc' := 67) iX10_back_66 rfl rfl ?_
          obtain ⟨k67, e67, hk67, hv⟩ := hv
          refine At_aald (b := (20 + 2 * k67)) (pc' := 68) iX10_back_67 rfl (kdH eT (kd_14 hL)) (by decide) (by rw [e67]; exact inB_nI hk67 (by decide)) (by rw [e67, nI_clamp (by omega)]; exact rfH eT (rf_song hL hk67)) ?_
          refine At_aload_n (pc' := 69) iX10_back_68 rfl rfl ?_
          refine At_getR (pc' := 72) iX10_back_69 rfl f_10_19 (kdK eT (kd_1 hL)) (by decide) (rfH eT (rf_1_1 hL)) ?_
          refine At_aload_n (pc' := 73) iX10_back_72 rfl rfl ?_
          refine At_getR (pc' := 76) iX10_back_73 rfl f_10_19 (kdK eT (kd_1 hL)) (by decide) (rfH eT (rf_1_1 hL)) ?_
          refine At_getR (pc' := 79) iX10_back_76 rfl f_10_57 (kdK eT (kd_12 hL)) (by decide) (rfH eT (rf_12_6 hL)) ?_
          refine At_getJ (pc' := 82) iX10_back_79 rfl f_10_146 (kdK eT (kd_15 hL)) (by decide) ?_
          refine At_virt (pc' := 85) iX10_back_82 rfl m_10_175 rfl rfl (kdK eT (kd_12 hL)) (Nat.le_of_ble_eq_true rfl) (Nat.le_of_ble_eq_true rfl) ?_
          refine At.mono (show CallJ (d + 4) MX8_seen [.ref 12, .long (gJ h 15 0)] h _ from hv) ?_
          rintro _ h82 ⟨r82, rfl, eT82, hv⟩
          show At (d + 5) MX10_back 85 [.ref 1, .int x1, .int x2] [.long r82, .ref (20 + 2 * k67)] h82 Q
          refine At_ldc2 (v := (-81985529216486896 : Int64)) (pc' := 88) iX10_back_85 rfl rfl ?_
          refine At_aload_n (pc' := 89) iX10_back_88 rfl rfl ?_
          refine At_getR (pc' := 92) iX10_back_89 rfl f_10_19 (kdK eT82 (kd_1 hL)) (by decide) (rfH eT82 (rf_1_1 hL)) ?_
          refine At_getI (pc' := 95) iX10_back_92 rfl f_10_109 (kdK eT82 (kd_12 hL)) (by decide) ?_
          refine At_virt (pc' := 98) iX10_back_95 rfl m_10_171 rfl rfl (kdK eT82 (X7_k0 (isX7_song hL hk67))) (Nat.le_of_ble_eq_true rfl) (Nat.le_of_ble_eq_true rfl) ?_
          refine At.mono (show CallI (d + 4) MX7_singingsBack [.ref (20 + 2 * k67), .long r82, .long (-81985529216486896 : Int64), .int (gI h82 12 0)] h82 _ from hv) ?_
          rintro _ h95 ⟨r95, rfl, eT95, hv⟩
          show At (d + 5) MX10_back 98 [.ref 1, .int x1, .int x2] [.int r95] h95 Q
          exact At_retI iX10_back_98 rfl hv
        · have hv := hv.1 c19
          refine At_aload_n (pc' := 23) iX10_back_22 rfl rfl ?_
          refine At_getR (pc' := 26) iX10_back_23 rfl f_10_19 (kdK eT (kd_1 hL)) (by decide) (rfH eT (rf_1_1 hL)) ?_
          refine At_getR (pc' := 29) iX10_back_26 rfl f_10_115 (kdK eT (kd_12 hL)) (by decide) (rfH eT (rf_12_5 hL)) ?_
          refine At_iload_n (pc' := 30) iX10_back_29 rfl rfl ?_
          obtain ⟨k30, e30, hk30, hv⟩ := hv
          refine At_aald (b := (20 + 2 * k30)) (pc' := 31) iX10_back_30 rfl (kdH eT (kd_14 hL)) (by decide) (by rw [e30]; exact inB_nI hk30 (by decide)) (by rw [e30, nI_clamp (by omega)]; exact rfH eT (rf_song hL hk30)) ?_
          refine At_aload_n (pc' := 32) iX10_back_31 rfl rfl ?_
          refine At_getR (pc' := 35) iX10_back_32 rfl f_10_19 (kdK eT (kd_1 hL)) (by decide) (rfH eT (rf_1_1 hL)) ?_
          refine At_getR (pc' := 38) iX10_back_35 rfl f_10_57 (kdK eT (kd_12 hL)) (by decide) (rfH eT (rf_12_6 hL)) ?_
          refine At_getJ (pc' := 41) iX10_back_38 rfl f_10_146 (kdK eT (kd_15 hL)) (by decide) ?_
          refine At_aload_n (pc' := 42) iX10_back_41 rfl rfl ?_
          refine At_getR (pc' := 45) iX10_back_42 rfl f_10_19 (kdK eT (kd_1 hL)) (by decide) (rfH eT (rf_1_1 hL)) ?_
          refine At_getJ (pc' := 48) iX10_back_45 rfl f_10_78 (kdK eT (kd_12 hL)) (by decide) ?_
          refine At_aload_n (pc' := 49) iX10_back_48 rfl rfl ?_
          refine At_getR (pc' := 52) iX10_back_49 rfl f_10_19 (kdK eT (kd_1 hL)) (by decide) (rfH eT (rf_1_1 hL)) ?_
          refine At_getI (pc' := 55) iX10_back_52 rfl f_10_109 (kdK eT (kd_12 hL)) (by decide) ?_
          refine At_virt (pc' := 58) iX10_back_55 rfl m_10_171 rfl rfl (kdK eT (X7_k0 (isX7_song hL hk30))) (Nat.le_of_ble_eq_true rfl) (Nat.le_of_ble_eq_true rfl) ?_
          refine At.mono (show CallI (d + 4) MX7_singingsBack [.ref (20 + 2 * k30), .long (gJ h 15 0), .long (gJ h 12 2), .int (gI h 12 0)] h _ from hv) ?_
          rintro _ h55 ⟨r55, rfl, eT55, hv⟩
          show At (d + 5) MX10_back 58 [.ref 1, .int x1, .int x2] [.int r55] h55 Q
          exact At_retI iX10_back_58 rfl hv
      · have hv := hv.1 c13
        refine At_iconst (v := (-1)) (pc' := 17) iX10_back_16 rfl (by decide) ?_
        exact At_retI iX10_back_17 rfl hv
-- X10_dropped (loop)
def L_X10_dropped_53 (d : Nat) (x1 : Int32) (x2 : Int32) (x3 : Int32) (x4 : Int32) (x5 : Int32) (x6 : Int32) (x7 : Int64) (x9 : Int32) (h : Hp) (Q : Option Value → Hp → Prop) : Prop := ∀ v10 v11 : Value, At (d + 5) MX10_dropped 53 [.ref 1, .int x1, .int x2, .int x3, .int x4, .int x5, .int x6, .long x7, un, .int x9, v10, v11] [] h Q
def L_X10_dropped_62 (d : Nat) (x1 : Int32) (x2 : Int32) (x3 : Int32) (x4 : Int32) (x5 : Int32) (x6 : Int32) (x7 : Int64) (x9 : Int32) (x10 : Int32) (h : Hp) (Q : Option Value → Hp → Prop) : Prop := ∀ v11 : Value, At (d + 5) MX10_dropped 62 [.ref 1, .int x1, .int x2, .int x3, .int x4, .int x5, .int x6, .long x7, un, .int x9, .int x10, v11] [] h Q
set_option maxRecDepth 20000 in
theorem b_X10_dropped {d : Nat} {T : HT} (hL : Lay T) {h : Hp} (eT : h.2.2 = T) (x1 : Int32) (x2 : Int32) (x3 : Int32)  {Q : Option Value → Hp → Prop} (hv : (((r_X10_isSong x1) = true) → (((x2 < (nI 1)) → (Q (some (.int (-1))) h)) ∧ (¬ (x2 < (nI 1)) → ((((nI 30) < x2) → (Q (some (.int (-1))) h)) ∧ (¬ ((nI 30) < x2) → (((x3 < 0) → (Q (some (.int (-1))) h)) ∧ (¬ (x3 < 0) → ((((nI 2) < x3) → (Q (some (.int (-1))) h)) ∧ (¬ ((nI 2) < x3) → (L_X10_dropped_53 d x1 x2 x3 (nI 0) (-1) (-1) (r_X6_home (gI h 12 0)) (nI 1) h Q)))))))))) ∧ (¬ ((r_X10_isSong x1) = true) → (Q (some (.int (-1))) h))) : Call (d + 5) MX10_dropped [.ref 1, .int x1, .int x2, .int x3] h Q := by
  show At (d + 5) MX10_dropped 0 [.ref 1, .int x1, .int x2, .int x3, un, un, un, un, un, un, un, un] [] h Q
  refine At_iload_n (pc' := 1) iX10_dropped_0 rfl rfl ?_
  refine At_stat (pc' := 4) iX10_dropped_1 rfl m_10_106 rfl rfl (Nat.le_of_ble_eq_true rfl) (Nat.le_of_ble_eq_true rfl) (Nat.le_of_ble_eq_true rfl) ?_
  refine c_X10_isSong (h := h) x1   (show At (d + 5) MX10_dropped 4 [.ref 1, .int x1, .int x2, .int x3, un, un, un, un, un, un, un, un] [.int (b2i (r_X10_isSong x1))] h Q from ?_)
  refine At_zeq (t := 27) (pc' := 7) iX10_dropped_4 (by decide) rfl (fun c4 => ?_) (fun c4 => ?_)
  · have hv := hv.2 c4
    refine At_iconst (v := (-1)) (pc' := 28) iX10_dropped_27 rfl (by decide) ?_
    exact At_retI iX10_dropped_28 rfl hv
  · have hv := hv.1 c4
    refine At_iload_n (pc' := 8) iX10_dropped_7 rfl rfl ?_
    refine At_iconst (v := nI 1) (pc' := 9) iX10_dropped_8 rfl (by decide) ?_
    refine At_icmp_lt (t := 27) (pc' := 12) iX10_dropped_9 (by decide) rfl (fun c9 => ?_) (fun c9 => ?_)
    · have hv := hv.1 c9
      refine At_iconst (v := (-1)) (pc' := 28) iX10_dropped_27 rfl (by decide) ?_
      exact At_retI iX10_dropped_28 rfl hv
    · have hv := hv.2 c9
      refine At_iload_n (pc' := 13) iX10_dropped_12 rfl rfl ?_
      refine At_bipush (v := nI 30) (pc' := 15) iX10_dropped_13 rfl (by decide) ?_
      refine At_icmp_gt (t := 27) (pc' := 18) iX10_dropped_15 (by decide) rfl (fun c15 => ?_) (fun c15 => ?_)
      · have hv := hv.1 c15
        refine At_iconst (v := (-1)) (pc' := 28) iX10_dropped_27 rfl (by decide) ?_
        exact At_retI iX10_dropped_28 rfl hv
      · have hv := hv.2 c15
        refine At_iload_n (pc' := 19) iX10_dropped_18 rfl rfl ?_
        refine At_if_lt (t := 27) (pc' := 22) iX10_dropped_19 (by decide) rfl (fun c19 => ?_) (fun c19 => ?_)
        · have hv := hv.1 c19
          refine At_iconst (v := (-1)) (pc' := 28) iX10_dropped_27 rfl (by decide) ?_
          exact At_retI iX10_dropped_28 rfl hv
        · have hv := hv.2 c19
          refine At_iload_n (pc' := 23) iX10_dropped_22 rfl rfl ?_
          refine At_iconst (v := nI 2) (pc' := 24) iX10_dropped_23 rfl (by decide) ?_
          refine At_icmp_le (t := 29) (pc' := 27) iX10_dropped_24 (by decide) rfl (fun c24 => ?_) (fun c24 => ?_)
          · have hv := hv.2 c24
            refine At_iconst (v := nI 0) (pc' := 30) iX10_dropped_29 rfl (by decide) ?_
            refine At_istore (L' := [.ref 1, .int x1, .int x2, .int x3, .int (nI 0), un, un, un, un, un, un, un]) (pc' := 32) iX10_dropped_30 rfl (Nat.le_of_ble_eq_true rfl) rfl ?_
            refine At_iconst (v := (-1)) (pc' := 33) iX10_dropped_32 rfl (by decide) ?_
            refine At_istore (L' := [.ref 1, .int x1, .int x2, .int x3, .int (nI 0), .int (-1), un, un, un, un, un, un]) (pc' := 35) iX10_dropped_33 rfl (Nat.le_of_ble_eq_true rfl) rfl ?_
            refine At_iconst (v := (-1)) (pc' := 36) iX10_dropped_35 rfl (by decide) ?_
            refine At_istore (L' := [.ref 1, .int x1, .int x2, .int x3, .int (nI 0), .int (-1), .int (-1), un, un, un, un, un]) (pc' := 38) iX10_dropped_36 rfl (Nat.le_of_ble_eq_true rfl) rfl ?_
            refine At_aload_n (pc' := 39) iX10_dropped_38 rfl rfl ?_
            refine At_getR (pc' := 42) iX10_dropped_39 rfl f_10_19 (kdK eT (kd_1 hL)) (by decide) (rfH eT (rf_1_1 hL)) ?_
            refine At_getI (pc' := 45) iX10_dropped_42 rfl f_10_109 (kdK eT (kd_12 hL)) (by decide) ?_
            refine At_stat (pc' := 48) iX10_dropped_45 rfl m_10_212 rfl rfl (Nat.le_of_ble_eq_true rfl) (Nat.le_of_ble_eq_true rfl) (Nat.le_of_ble_eq_true rfl) ?_
            refine c_X6_home (h := h) (gI h 12 0)   (show At (d + 5) MX10_dropped 48 [.ref 1, .int x1, .int x2, .int x3, .int (nI 0), .int (-1), .int (-1), un, un, un, un, un] [.long (r_X6_home (gI h 12 0))] h Q from ?_)
            refine At_lstore (L' := [.ref 1, .int x1, .int x2, .int x3, .int (nI 0), .int (-1), .int (-1), .long (r_X6_home (gI h 12 0)), un, un, un, un]) (pc' := 50) iX10_dropped_48 rfl (Nat.le_of_ble_eq_true rfl) rfl ?_
            refine At_iconst (v := nI 1) (pc' := 51) iX10_dropped_50 rfl (by decide) ?_
            refine At_istore (L' := [.ref 1, .int x1, .int x2, .int x3, .int (nI 0), .int (-1), .int (-1), .long (r_X6_home (gI h 12 0)), un, .int (nI 1), un, un]) (pc' := 53) iX10_dropped_51 rfl (Nat.le_of_ble_eq_true rfl) rfl ?_
            exact hv _ _
          · have hv := hv.1 c24
            refine At_iconst (v := (-1)) (pc' := 28) iX10_dropped_27 rfl (by decide) ?_
            exact At_retI iX10_dropped_28 rfl hv
set_option maxRecDepth 20000 in
theorem b_X10_dropped_53 {d : Nat} {T : HT} (hL : Lay T) {h : Hp} (eT : h.2.2 = T) (x1 : Int32) (x2 : Int32) (x3 : Int32) (x4 : Int32) (x5 : Int32) (x6 : Int32) (x7 : Int64) (x9 : Int32)  {Q : Option Value → Hp → Prop} (hv : ((x2 < x9) → (CallJ (d + 4) MX8_seen [.ref 12, .long x7] h (fun r199 h199 => h199.2.2 = T ∧ ((((lg_cmp r199 (gJ h199 12 3)) = 0) → (Q (some (.int (r_X10_oneOfThree x3 (x4 + (nI 1)) (-1) (x2 + (nI 1))))) h199)) ∧ (¬ ((lg_cmp r199 (gJ h199 12 3)) = 0) → (Q (some (.int (r_X10_oneOfThree x3 x4 x5 x6))) h199)))))) ∧ (¬ (x2 < x9) → (L_X10_dropped_62 d x1 x2 x3 x4 x5 x6 x7 x9 (nI 0) h Q))) : L_X10_dropped_53 d x1 x2 x3 x4 x5 x6 x7 x9 h Q := by
  intro v10 v11
  refine At_iload (pc' := 55) iX10_dropped_53 rfl rfl ?_
  refine At_iload_n (pc' := 56) iX10_dropped_55 rfl rfl ?_
  refine At_icmp_gt (t := 193) (pc' := 59) iX10_dropped_56 (by decide) rfl (fun c56 => ?_) (fun c56 => ?_)
  · have hv := hv.1 c56
    refine At_aload_n (pc' := 194) iX10_dropped_193 rfl rfl ?_
    refine At_getR (pc' := 197) iX10_dropped_194 rfl f_10_19 (kdK eT (kd_1 hL)) (by decide) (rfH eT (rf_1_1 hL)) ?_
    refine At_lload (pc' := 199) iX10_dropped_197 rfl rfl ?_
    refine At_virt (pc' := 202) iX10_dropped_199 rfl m_10_175 rfl rfl (kdK eT (kd_12 hL)) (Nat.le_of_ble_eq_true rfl) (Nat.le_of_ble_eq_true rfl) ?_
    refine At.mono (show CallJ (d + 4) MX8_seen [.ref 12, .long x7] h _ from hv) ?_
    rintro _ h199 ⟨r199, rfl, eT199, hv⟩
    show At (d + 5) MX10_dropped 202 [.ref 1, .int x1, .int x2, .int x3, .int x4, .int x5, .int x6, .long x7, un, .int x9, v10, v11] [.long r199] h199 Q
    refine At_aload_n (pc' := 203) iX10_dropped_202 rfl rfl ?_
    refine At_getR (pc' := 206) iX10_dropped_203 rfl f_10_19 (kdK eT199 (kd_1 hL)) (by decide) (rfH eT199 (rf_1_1 hL)) ?_
    refine At_getJ (pc' := 209) iX10_dropped_206 rfl f_10_189 (kdK eT199 (kd_12 hL)) (by decide) ?_
    refine At_lcmp (pc' := 210) iX10_dropped_209 rfl ?_
    refine At_if_ne (t := 226) (pc' := 213) iX10_dropped_210 (by decide) rfl (fun c210 => ?_) (fun c210 => ?_)
    · have hv := hv.2 c210
      refine At_iload_n (pc' := 227) iX10_dropped_226 rfl rfl ?_
      refine At_iload (pc' := 229) iX10_dropped_227 rfl rfl ?_
      refine At_iload (pc' := 231) iX10_dropped_229 rfl rfl ?_
      refine At_iload (pc' := 233) iX10_dropped_231 rfl rfl ?_
      refine At_stat (pc' := 236) iX10_dropped_233 rfl m_10_208 rfl rfl (Nat.le_of_ble_eq_true rfl) (Nat.le_of_ble_eq_true rfl) (Nat.le_of_ble_eq_true rfl) ?_
      refine c_X10_oneOfThree (h := h199) x3 x4 x5 x6   (show At (d + 5) MX10_dropped 236 [.ref 1, .int x1, .int x2, .int x3, .int x4, .int x5, .int x6, .long x7, un, .int x9, v10, v11] [.int (r_X10_oneOfThree x3 x4 x5 x6)] h199 Q from ?_)
      exact At_retI iX10_dropped_236 rfl hv
    · have hv := hv.1 c210
      refine At_iload_n (pc' := 214) iX10_dropped_213 rfl rfl ?_
      refine At_iload (pc' := 216) iX10_dropped_214 rfl rfl ?_
      refine At_iconst (v := nI 1) (pc' := 217) iX10_dropped_216 rfl (by decide) ?_
      refine At_iadd (pc' := 218) iX10_dropped_217 rfl ?_
      refine At_iconst (v := (-1)) (pc' := 219) iX10_dropped_218 rfl (by decide) ?_
      refine At_iload_n (pc' := 220) iX10_dropped_219 rfl rfl ?_
      refine At_iconst (v := nI 1) (pc' := 221) iX10_dropped_220 rfl (by decide) ?_
      refine At_iadd (pc' := 222) iX10_dropped_221 rfl ?_
      refine At_stat (pc' := 225) iX10_dropped_222 rfl m_10_208 rfl rfl (Nat.le_of_ble_eq_true rfl) (Nat.le_of_ble_eq_true rfl) (Nat.le_of_ble_eq_true rfl) ?_
      refine c_X10_oneOfThree (h := h199) x3 (x4 + (nI 1)) (-1) (x2 + (nI 1))   (show At (d + 5) MX10_dropped 225 [.ref 1, .int x1, .int x2, .int x3, .int x4, .int x5, .int x6, .long x7, un, .int x9, v10, v11] [.int (r_X10_oneOfThree x3 (x4 + (nI 1)) (-1) (x2 + (nI 1)))] h199 Q from ?_)
      exact At_retI iX10_dropped_225 rfl hv
  · have hv := hv.2 c56
    refine At_iconst (v := nI 0) (pc' := 60) iX10_dropped_59 rfl (by decide) ?_
    refine At_istore (L' := [.ref 1, .int x1, .int x2, .int x3, .int x4, .int x5, .int x6, .long x7, un, .int x9, .int (nI 0), v11]) (pc' := 62) iX10_dropped_60 rfl (Nat.le_of_ble_eq_true rfl) rfl ?_
    exact hv _
set_option maxRecDepth 20000 in
theorem b_X10_dropped_62 {d : Nat} {T : HT} (hL : Lay T) {h : Hp} (eT : h.2.2 = T) (x1 : Int32) (x2 : Int32) (x3 : Int32) (x4 : Int32) (x5 : Int32) (x6 : Int32) (x7 : Int64) (x9 : Int32) (x10 : Int32)  {Q : Option Value → Hp → Prop} (hv : ((x10 < (gI h 12 0)) → (∃ k87 : Nat, x1 = nI k87 ∧ k87 < 4 ∧ (CallZ (d + 4) MX10_fitsWithout [.ref 1, .int x10, .long x7, .ref (20 + 2 * k87), .int ((x2 - x9) + (nI 1))] h (fun r94 h94 => h94.2.2 = T ∧ (((r94 = true) → (((x4 = 0) → (L_X10_dropped_62 d x1 x2 x3 (x4 + nI 1) x10 x9 x7 x9 (x10 + nI 1) h94 Q)) ∧ (¬ (x4 = 0) → (((x10 < x5) → (L_X10_dropped_62 d x1 x2 x3 (x4 + nI 1) x10 x9 x7 x9 (x10 + nI 1) h94 Q)) ∧ (¬ (x10 < x5) → (L_X10_dropped_62 d x1 x2 x3 (x4 + nI 1) x5 x6 x7 x9 (x10 + nI 1) h94 Q)))))) ∧ (¬ (r94 = true) → (L_X10_dropped_62 d x1 x2 x3 x4 x5 x6 x7 x9 (x10 + nI 1) h94 Q))))))) ∧ (¬ (x10 < (gI h 12 0)) → (∃ k164 : Nat, x1 = nI k164 ∧ k164 < 4 ∧ (CallJ (d + 4) MX7_sungFrom [.ref (20 + 2 * k164), .long x7, .long (gJ h 12 2), .int (gI h 12 0), .int (-1)] h (fun r182 h182 => h182.2.2 = T ∧ (L_X10_dropped_53 d x1 x2 x3 x4 x5 x6 r182 (x9 + nI 1) h182 Q)))))) : L_X10_dropped_62 d x1 x2 x3 x4 x5 x6 x7 x9 x10 h Q := by
  intro v11
  refine At_iload (pc' := 64) iX10_dropped_62 rfl rfl ?_
  refine At_aload_n (pc' := 65) iX10_dropped_64 rfl rfl ?_
  refine At_getR (pc' := 68) iX10_dropped_65 rfl f_10_19 (kdK eT (kd_1 hL)) (by decide) (rfH eT (rf_1_1 hL)) ?_
  refine At_getI (pc' := 71) iX10_dropped_68 rfl f_10_109 (kdK eT (kd_12 hL)) (by decide) ?_
  refine At_icmp_ge (t := 156) (pc' := 74) iX10_dropped_71 (by decide) rfl (fun c71 => ?_) (fun c71 => ?_)
  · have hv := hv.2 c71
    refine At_aload_n (pc' := 157) iX10_dropped_156 rfl rfl ?_
    refine At_getR (pc' := 160) iX10_dropped_157 rfl f_10_19 (kdK eT (kd_1 hL)) (by decide) (rfH eT (rf_1_1 hL)) ?_
    refine At_getR (pc' := 163) iX10_dropped_160 rfl f_10_115 (kdK eT (kd_12 hL)) (by decide) (rfH eT (rf_12_5 hL)) ?_
    refine At_iload_n (pc' := 164) iX10_dropped_163 rfl rfl ?_
    obtain ⟨k164, e164, hk164, hv⟩ := hv
    refine At_aald (b := (20 + 2 * k164)) (pc' := 165) iX10_dropped_164 rfl (kdH eT (kd_14 hL)) (by decide) (by rw [e164]; exact inB_nI hk164 (by decide)) (by rw [e164, nI_clamp (by omega)]; exact rfH eT (rf_song hL hk164)) ?_
    refine At_lload (pc' := 167) iX10_dropped_165 rfl rfl ?_
    refine At_aload_n (pc' := 168) iX10_dropped_167 rfl rfl ?_
    refine At_getR (pc' := 171) iX10_dropped_168 rfl f_10_19 (kdK eT (kd_1 hL)) (by decide) (rfH eT (rf_1_1 hL)) ?_
    refine At_getJ (pc' := 174) iX10_dropped_171 rfl f_10_78 (kdK eT (kd_12 hL)) (by decide) ?_
    refine At_aload_n (pc' := 175) iX10_dropped_174 rfl rfl ?_
    refine At_getR (pc' := 178) iX10_dropped_175 rfl f_10_19 (kdK eT (kd_1 hL)) (by decide) (rfH eT (rf_1_1 hL)) ?_
    refine At_getI (pc' := 181) iX10_dropped_178 rfl f_10_109 (kdK eT (kd_12 hL)) (by decide) ?_
    refine At_iconst (v := (-1)) (pc' := 182) iX10_dropped_181 rfl (by decide) ?_
    refine At_virt (pc' := 185) iX10_dropped_182 rfl m_10_185 rfl rfl (kdK eT (X7_k0 (isX7_song hL hk164))) (Nat.le_of_ble_eq_true rfl) (Nat.le_of_ble_eq_true rfl) ?_
    refine At.mono (show CallJ (d + 4) MX7_sungFrom [.ref (20 + 2 * k164), .long x7, .long (gJ h 12 2), .int (gI h 12 0), .int (-1)] h _ from hv) ?_
    rintro _ h182 ⟨r182, rfl, eT182, hv⟩
    show At (d + 5) MX10_dropped 185 [.ref 1, .int x1, .int x2, .int x3, .int x4, .int x5, .int x6, .long x7, un, .int x9, .int x10, v11] [.long r182] h182 Q
    refine At_lstore (L' := [.ref 1, .int x1, .int x2, .int x3, .int x4, .int x5, .int x6, .long r182, un, .int x9, .int x10, v11]) (pc' := 187) iX10_dropped_185 rfl (Nat.le_of_ble_eq_true rfl) rfl ?_
    refine At_iinc (v := nI 1) (L' := [.ref 1, .int x1, .int x2, .int x3, .int x4, .int x5, .int x6, .long r182, un, .int (x9 + nI 1), .int x10, v11]) (pc' := 190) iX10_dropped_187 rfl rfl (Nat.le_of_ble_eq_true rfl) (by decide) rfl ?_
    refine At_goto (t := 53) iX10_dropped_190 (by decide) ?_
    exact hv _ _
  · have hv := hv.1 c71
    refine At_aload_n (pc' := 75) iX10_dropped_74 rfl rfl ?_
    refine At_iload (pc' := 77) iX10_dropped_75 rfl rfl ?_
    refine At_lload (pc' := 79) iX10_dropped_77 rfl rfl ?_
    refine At_aload_n (pc' := 80) iX10_dropped_79 rfl rfl ?_
    refine At_getR (pc' := 83) iX10_dropped_80 rfl f_10_19 (kdK eT (kd_1 hL)) (by decide) (rfH eT (rf_1_1 hL)) ?_
    refine At_getR (pc' := 86) iX10_dropped_83 rfl f_10_115 (kdK eT (kd_12 hL)) (by decide) (rfH eT (rf_12_5 hL)) ?_
    refine At_iload_n (pc' := 87) iX10_dropped_86 rfl rfl ?_
    obtain ⟨k87, e87, hk87, hv⟩ := hv
    refine At_aald (b := (20 + 2 * k87)) (pc' := 88) iX10_dropped_87 rfl (kdH eT (kd_14 hL)) (by decide) (by rw [e87]; exact inB_nI hk87 (by decide)) (by rw [e87, nI_clamp (by omega)]; exact rfH eT (rf_song hL hk87)) ?_
    refine At_iload_n (pc' := 89) iX10_dropped_88 rfl rfl ?_
    refine At_iload (pc' := 91) iX10_dropped_89 rfl rfl ?_
    refine At_isub (pc' := 92) iX10_dropped_91 rfl ?_
    refine At_iconst (v := nI 1) (pc' := 93) iX10_dropped_92 rfl (by decide) ?_
    refine At_iadd (pc' := 94) iX10_dropped_93 rfl ?_
    refine At_virt (pc' := 97) iX10_dropped_94 rfl m_10_216 rfl rfl (kdK eT (kd_1 hL)) (Nat.le_of_ble_eq_true rfl) (Nat.le_of_ble_eq_true rfl) ?_
    refine At.mono (show CallZ (d + 4) MX10_fitsWithout [.ref 1, .int x10, .long x7, .ref (20 + 2 * k87), .int ((x2 - x9) + (nI 1))] h _ from hv) ?_
    rintro _ h94 ⟨r94, rfl, eT94, hv⟩
    show At (d + 5) MX10_dropped 97 [.ref 1, .int x1, .int x2, .int x3, .int x4, .int x5, .int x6, .long x7, un, .int x9, .int x10, v11] [.int (b2i r94)] h94 Q
    refine At_zeq (t := 150) (pc' := 100) iX10_dropped_97 (by decide) rfl (fun c97 => ?_) (fun c97 => ?_)
    · have hv := hv.2 c97
      refine At_iinc (v := nI 1) (L' := [.ref 1, .int x1, .int x2, .int x3, .int x4, .int x5, .int x6, .long x7, un, .int x9, .int (x10 + nI 1), v11]) (pc' := 153) iX10_dropped_150 rfl rfl (Nat.le_of_ble_eq_true rfl) (by decide) rfl ?_
      refine At_goto (t := 62) iX10_dropped_153 (by decide) ?_
      exact hv _
    · have hv := hv.1 c97
      refine At_iload (pc' := 102) iX10_dropped_100 rfl rfl ?_
      refine At_if_eq (t := 112) (pc' := 105) iX10_dropped_102 (by decide) rfl (fun c102 => ?_) (fun c102 => ?_)
      · have hv := hv.1 c102
        refine At_iconst (v := nI 1) (pc' := 113) iX10_dropped_112 rfl (by decide) ?_
        refine At_goto (t := 117) iX10_dropped_113 (by decide) ?_
        refine At_istore (L' := [.ref 1, .int x1, .int x2, .int x3, .int x4, .int x5, .int x6, .long x7, un, .int x9, .int x10, .int (nI 1)]) (pc' := 119) iX10_dropped_117 rfl (Nat.le_of_ble_eq_true rfl) rfl ?_
        refine At_iload (pc' := 121) iX10_dropped_119 rfl rfl ?_
        refine At_if_eq (t := 129) (pc' := 124) iX10_dropped_121 (by decide) rfl (fun c121 => absurd c121 (by decide)) (fun c121 => ?_)
        refine At_iload (pc' := 126) iX10_dropped_124 rfl rfl ?_
        refine At_goto (t := 131) iX10_dropped_126 (by decide) ?_
        refine At_istore (L' := [.ref 1, .int x1, .int x2, .int x3, .int x4, .int x10, .int x6, .long x7, un, .int x9, .int x10, .int (nI 1)]) (pc' := 133) iX10_dropped_131 rfl (Nat.le_of_ble_eq_true rfl) rfl ?_
        refine At_iload (pc' := 135) iX10_dropped_133 rfl rfl ?_
        refine At_if_eq (t := 143) (pc' := 138) iX10_dropped_135 (by decide) rfl (fun c135 => absurd c135 (by decide)) (fun c135 => ?_)
        refine At_iload (pc' := 140) iX10_dropped_138 rfl rfl ?_
        refine At_goto (t := 145) iX10_dropped_140 (by decide) ?_
        refine At_istore (L' := [.ref 1, .int x1, .int x2, .int x3, .int x4, .int x10, .int x9, .long x7, un, .int x9, .int x10, .int (nI 1)]) (pc' := 147) iX10_dropped_145 rfl (Nat.le_of_ble_eq_true rfl) rfl ?_
        refine At_iinc (v := nI 1) (L' := [.ref 1, .int x1, .int x2, .int x3, .int (x4 + nI 1), .int x10, .int x9, .long x7, un, .int x9, .int x10, .int (nI 1)]) (pc' := 150) iX10_dropped_147 rfl rfl (Nat.le_of_ble_eq_true rfl) (by decide) rfl ?_
        refine At_iinc (v := nI 1) (L' := [.ref 1, .int x1, .int x2, .int x3, .int (x4 + nI 1), .int x10, .int x9, .long x7, un, .int x9, .int (x10 + nI 1), .int (nI 1)]) (pc' := 153) iX10_dropped_150 rfl rfl (Nat.le_of_ble_eq_true rfl) (by decide) rfl ?_
        refine At_goto (t := 62) iX10_dropped_153 (by decide) ?_
        exact hv _
      · have hv := hv.2 c102
        refine At_iload (pc' := 107) iX10_dropped_105 rfl rfl ?_
        refine At_iload (pc' := 109) iX10_dropped_107 rfl rfl ?_
        refine At_icmp_ge (t := 116) (pc' := 112) iX10_dropped_109 (by decide) rfl (fun c109 => ?_) (fun c109 => ?_)
        · have hv := hv.2 c109
          refine At_iconst (v := nI 0) (pc' := 117) iX10_dropped_116 rfl (by decide) ?_
          refine At_istore (L' := [.ref 1, .int x1, .int x2, .int x3, .int x4, .int x5, .int x6, .long x7, un, .int x9, .int x10, .int (nI 0)]) (pc' := 119) iX10_dropped_117 rfl (Nat.le_of_ble_eq_true rfl) rfl ?_
          refine At_iload (pc' := 121) iX10_dropped_119 rfl rfl ?_
          refine At_if_eq (t := 129) (pc' := 124) iX10_dropped_121 (by decide) rfl (fun c121 => ?_) (fun c121 => absurd c121 (by decide))
          refine At_iload (pc' := 131) iX10_dropped_129 rfl rfl ?_
          refine At_istore (L' := [.ref 1, .int x1, .int x2, .int x3, .int x4, .int x5, .int x6, .long x7, un, .int x9, .int x10, .int (nI 0)]) (pc' := 133) iX10_dropped_131 rfl (Nat.le_of_ble_eq_true rfl) rfl ?_
          refine At_iload (pc' := 135) iX10_dropped_133 rfl rfl ?_
          refine At_if_eq (t := 143) (pc' := 138) iX10_dropped_135 (by decide) rfl (fun c135 => ?_) (fun c135 => absurd c135 (by decide))
          refine At_iload (pc' := 145) iX10_dropped_143 rfl rfl ?_
          refine At_istore (L' := [.ref 1, .int x1, .int x2, .int x3, .int x4, .int x5, .int x6, .long x7, un, .int x9, .int x10, .int (nI 0)]) (pc' := 147) iX10_dropped_145 rfl (Nat.le_of_ble_eq_true rfl) rfl ?_
          refine At_iinc (v := nI 1) (L' := [.ref 1, .int x1, .int x2, .int x3, .int (x4 + nI 1), .int x5, .int x6, .long x7, un, .int x9, .int x10, .int (nI 0)]) (pc' := 150) iX10_dropped_147 rfl rfl (Nat.le_of_ble_eq_true rfl) (by decide) rfl ?_
          refine At_iinc (v := nI 1) (L' := [.ref 1, .int x1, .int x2, .int x3, .int (x4 + nI 1), .int x5, .int x6, .long x7, un, .int x9, .int (x10 + nI 1), .int (nI 0)]) (pc' := 153) iX10_dropped_150 rfl rfl (Nat.le_of_ble_eq_true rfl) (by decide) rfl ?_
          refine At_goto (t := 62) iX10_dropped_153 (by decide) ?_
          exact hv _
        · have hv := hv.1 c109
          refine At_iconst (v := nI 1) (pc' := 113) iX10_dropped_112 rfl (by decide) ?_
          refine At_goto (t := 117) iX10_dropped_113 (by decide) ?_
          refine At_istore (L' := [.ref 1, .int x1, .int x2, .int x3, .int x4, .int x5, .int x6, .long x7, un, .int x9, .int x10, .int (nI 1)]) (pc' := 119) iX10_dropped_117 rfl (Nat.le_of_ble_eq_true rfl) rfl ?_
          refine At_iload (pc' := 121) iX10_dropped_119 rfl rfl ?_
          refine At_if_eq (t := 129) (pc' := 124) iX10_dropped_121 (by decide) rfl (fun c121 => absurd c121 (by decide)) (fun c121 => ?_)
          refine At_iload (pc' := 126) iX10_dropped_124 rfl rfl ?_
          refine At_goto (t := 131) iX10_dropped_126 (by decide) ?_
          refine At_istore (L' := [.ref 1, .int x1, .int x2, .int x3, .int x4, .int x10, .int x6, .long x7, un, .int x9, .int x10, .int (nI 1)]) (pc' := 133) iX10_dropped_131 rfl (Nat.le_of_ble_eq_true rfl) rfl ?_
          refine At_iload (pc' := 135) iX10_dropped_133 rfl rfl ?_
          refine At_if_eq (t := 143) (pc' := 138) iX10_dropped_135 (by decide) rfl (fun c135 => absurd c135 (by decide)) (fun c135 => ?_)
          refine At_iload (pc' := 140) iX10_dropped_138 rfl rfl ?_
          refine At_goto (t := 145) iX10_dropped_140 (by decide) ?_
          refine At_istore (L' := [.ref 1, .int x1, .int x2, .int x3, .int x4, .int x10, .int x9, .long x7, un, .int x9, .int x10, .int (nI 1)]) (pc' := 147) iX10_dropped_145 rfl (Nat.le_of_ble_eq_true rfl) rfl ?_
          refine At_iinc (v := nI 1) (L' := [.ref 1, .int x1, .int x2, .int x3, .int (x4 + nI 1), .int x10, .int x9, .long x7, un, .int x9, .int x10, .int (nI 1)]) (pc' := 150) iX10_dropped_147 rfl rfl (Nat.le_of_ble_eq_true rfl) (by decide) rfl ?_
          refine At_iinc (v := nI 1) (L' := [.ref 1, .int x1, .int x2, .int x3, .int (x4 + nI 1), .int x10, .int x9, .long x7, un, .int x9, .int (x10 + nI 1), .int (nI 1)]) (pc' := 153) iX10_dropped_150 rfl rfl (Nat.le_of_ble_eq_true rfl) (by decide) rfl ?_
          refine At_goto (t := 62) iX10_dropped_153 (by decide) ?_
          exact hv _
-- X10_fewest (calls X8_seen)
set_option maxRecDepth 20000 in
theorem b_X10_fewest {d : Nat} {T : HT} (hL : Lay T) {h : Hp} (eT : h.2.2 = T) (x1 : Int32)  {Q : Option Value → Hp → Prop} (hv : ((x1 < 0) → (Q (some (.int (-1))) h)) ∧ (¬ (x1 < 0) → ((((nI 2) < x1) → (Q (some (.int (-1))) h)) ∧ (¬ ((nI 2) < x1) → ((((nI 7) < (gI h 12 0)) → (Q (some (.int (-1))) h)) ∧ (¬ ((nI 7) < (gI h 12 0)) → (CallJ (d + 4) MX8_seen [.ref 12, .long (gJ h 15 0)] h (fun r37 h37 => h37.2.2 = T ∧ (CallI (d + 4) MX3_needed [.ref 48, .long r37, .long (gJ h37 12 3), .int (gI h37 12 0)] h37 (fun r60 h60 => h60.2.2 = T ∧ (((x1 = 0) → (((x1 = 0) → (Q (some (.int r60)) h60)) ∧ (¬ (x1 = 0) → (Q (some (.int (-1))) h60)))) ∧ (¬ (x1 = 0) → (((r60 < (nI 1)) → (((x1 = 0) → (Q (some (.int r60)) h60)) ∧ (¬ (x1 = 0) → (Q (some (.int (-1))) h60)))) ∧ (¬ (r60 < (nI 1)) → (CallI (d + 4) MX3_firstOf [.ref 48, .int r60, .long r37, .long (gJ h60 12 3), .int (gI h60 12 0)] h60 (fun r107 h107 => h107.2.2 = T ∧ (((x1 = (nI 1)) → (Q (some (.int (r_X4_from r107))) h107)) ∧ (¬ (x1 = (nI 1)) → (Q (some (.int (r_X4_to r107))) h107))))))))))))))))))) : Call (d + 5) MX10_fewest [.ref 1, .int x1] h Q := by
  show At (d + 5) MX10_fewest 0 [.ref 1, .int x1, un, un, un, un] [] h Q
  refine At_iload_n (pc' := 1) iX10_fewest_0 rfl rfl ?_
  refine At_if_lt (t := 21) (pc' := 4) iX10_fewest_1 (by decide) rfl (fun c1 => ?_) (fun c1 => ?_)
  · have hv := hv.1 c1
    refine At_iconst (v := (-1)) (pc' := 22) iX10_fewest_21 rfl (by decide) ?_
    exact At_retI iX10_fewest_22 rfl hv
  · have hv := hv.2 c1
    refine At_iload_n (pc' := 5) iX10_fewest_4 rfl rfl ?_
    refine At_iconst (v := nI 2) (pc' := 6) iX10_fewest_5 rfl (by decide) ?_
    refine At_icmp_gt (t := 21) (pc' := 9) iX10_fewest_6 (by decide) rfl (fun c6 => ?_) (fun c6 => ?_)
    · have hv := hv.1 c6
      refine At_iconst (v := (-1)) (pc' := 22) iX10_fewest_21 rfl (by decide) ?_
      exact At_retI iX10_fewest_22 rfl hv
    · have hv := hv.2 c6
      refine At_aload_n (pc' := 10) iX10_fewest_9 rfl rfl ?_
      refine At_getR (pc' := 13) iX10_fewest_10 rfl f_10_19 (kdK eT (kd_1 hL)) (by decide) (rfH eT (rf_1_1 hL)) ?_
      refine At_getI (pc' := 16) iX10_fewest_13 rfl f_10_109 (kdK eT (kd_12 hL)) (by decide) ?_
      refine At_bipush (v := nI 7) (pc' := 18) iX10_fewest_16 rfl (by decide) ?_
      refine At_icmp_le (t := 23) (pc' := 21) iX10_fewest_18 (by decide) rfl (fun c18 => ?_) (fun c18 => ?_)
      · have hv := hv.2 c18
        refine At_aload_n (pc' := 24) iX10_fewest_23 rfl rfl ?_
        refine At_getR (pc' := 27) iX10_fewest_24 rfl f_10_19 (kdK eT (kd_1 hL)) (by decide) (rfH eT (rf_1_1 hL)) ?_
        refine At_aload_n (pc' := 28) iX10_fewest_27 rfl rfl ?_
        refine At_getR (pc' := 31) iX10_fewest_28 rfl f_10_19 (kdK eT (kd_1 hL)) (by decide) (rfH eT (rf_1_1 hL)) ?_
        refine At_getR (pc' := 34) iX10_fewest_31 rfl f_10_57 (kdK eT (kd_12 hL)) (by decide) (rfH eT (rf_12_6 hL)) ?_
        refine At_getJ (pc' := 37) iX10_fewest_34 rfl f_10_146 (kdK eT (kd_15 hL)) (by decide) ?_
        refine At_virt (pc' := 40) iX10_fewest_37 rfl m_10_175 rfl rfl (kdK eT (kd_12 hL)) (Nat.le_of_ble_eq_true rfl) (Nat.le_of_ble_eq_true rfl) ?_
        refine At.mono (show CallJ (d + 4) MX8_seen [.ref 12, .long (gJ h 15 0)] h _ from hv) ?_
        rintro _ h37 ⟨r37, rfl, eT37, hv⟩
        show At (d + 5) MX10_fewest 40 [.ref 1, .int x1, un, un, un, un] [.long r37] h37 Q
        refine At_lstore_n (L' := [.ref 1, .int x1, .long r37, un, un, un]) (pc' := 41) iX10_fewest_40 rfl (Nat.le_of_ble_eq_true rfl) rfl ?_
        refine At_aload_n (pc' := 42) iX10_fewest_41 rfl rfl ?_
        refine At_getR (pc' := 45) iX10_fewest_42 rfl f_10_33 (kdK eT37 (kd_1 hL)) (by decide) (rfH eT37 (rf_1_3 hL)) ?_
        refine At_lload_n (pc' := 46) iX10_fewest_45 rfl rfl ?_
        refine At_aload_n (pc' := 47) iX10_fewest_46 rfl rfl ?_
        refine At_getR (pc' := 50) iX10_fewest_47 rfl f_10_19 (kdK eT37 (kd_1 hL)) (by decide) (rfH eT37 (rf_1_1 hL)) ?_
        refine At_getJ (pc' := 53) iX10_fewest_50 rfl f_10_189 (kdK eT37 (kd_12 hL)) (by decide) ?_
        refine At_aload_n (pc' := 54) iX10_fewest_53 rfl rfl ?_
        refine At_getR (pc' := 57) iX10_fewest_54 rfl f_10_19 (kdK eT37 (kd_1 hL)) (by decide) (rfH eT37 (rf_1_1 hL)) ?_
        refine At_getI (pc' := 60) iX10_fewest_57 rfl f_10_109 (kdK eT37 (kd_12 hL)) (by decide) ?_
        refine At_virt (pc' := 63) iX10_fewest_60 rfl m_10_192 rfl rfl (kdK eT37 (kd_48 hL)) (Nat.le_of_ble_eq_true rfl) (Nat.le_of_ble_eq_true rfl) ?_
        refine At.mono (show CallI (d + 4) MX3_needed [.ref 48, .long r37, .long (gJ h37 12 3), .int (gI h37 12 0)] h37 _ from hv) ?_
        rintro _ h60 ⟨r60, rfl, eT60, hv⟩
        show At (d + 5) MX10_fewest 63 [.ref 1, .int x1, .long r37, un, un, un] [.int r60] h60 Q
        refine At_istore (L' := [.ref 1, .int x1, .long r37, un, .int r60, un]) (pc' := 65) iX10_fewest_63 rfl (Nat.le_of_ble_eq_true rfl) rfl ?_
        refine At_iload_n (pc' := 66) iX10_fewest_65 rfl rfl ?_
        refine At_if_eq (t := 75) (pc' := 69) iX10_fewest_66 (by decide) rfl (fun c66 => ?_) (fun c66 => ?_)
        · have hv := hv.1 c66
          refine At_iload_n (pc' := 76) iX10_fewest_75 rfl rfl ?_
          refine At_if_ne (t := 84) (pc' := 79) iX10_fewest_76 (by decide) rfl (fun c76 => ?_) (fun c76 => ?_)
          · have hv := hv.2 c76
            refine At_iconst (v := (-1)) (pc' := 85) iX10_fewest_84 rfl (by decide) ?_
            exact At_retI iX10_fewest_85 rfl hv
          · have hv := hv.1 c76
            refine At_iload (pc' := 81) iX10_fewest_79 rfl rfl ?_
            refine At_goto (t := 85) iX10_fewest_81 (by decide) ?_
            exact At_retI iX10_fewest_85 rfl hv
        · have hv := hv.2 c66
          refine At_iload (pc' := 71) iX10_fewest_69 rfl rfl ?_
          refine At_iconst (v := nI 1) (pc' := 72) iX10_fewest_71 rfl (by decide) ?_
          refine At_icmp_ge (t := 86) (pc' := 75) iX10_fewest_72 (by decide) rfl (fun c72 => ?_) (fun c72 => ?_)
          · have hv := hv.2 c72
            refine At_aload_n (pc' := 87) iX10_fewest_86 rfl rfl ?_
            refine At_getR (pc' := 90) iX10_fewest_87 rfl f_10_33 (kdK eT60 (kd_1 hL)) (by decide) (rfH eT60 (rf_1_3 hL)) ?_
            refine At_iload (pc' := 92) iX10_fewest_90 rfl rfl ?_
            refine At_lload_n (pc' := 93) iX10_fewest_92 rfl rfl ?_
            refine At_aload_n (pc' := 94) iX10_fewest_93 rfl rfl ?_
            refine At_getR (pc' := 97) iX10_fewest_94 rfl f_10_19 (kdK eT60 (kd_1 hL)) (by decide) (rfH eT60 (rf_1_1 hL)) ?_
            refine At_getJ (pc' := 100) iX10_fewest_97 rfl f_10_189 (kdK eT60 (kd_12 hL)) (by decide) ?_
            refine At_aload_n (pc' := 101) iX10_fewest_100 rfl rfl ?_
            refine At_getR (pc' := 104) iX10_fewest_101 rfl f_10_19 (kdK eT60 (kd_1 hL)) (by decide) (rfH eT60 (rf_1_1 hL)) ?_
            refine At_getI (pc' := 107) iX10_fewest_104 rfl f_10_109 (kdK eT60 (kd_12 hL)) (by decide) ?_
            refine At_virt (pc' := 110) iX10_fewest_107 rfl m_10_195 rfl rfl (kdK eT60 (kd_48 hL)) (Nat.le_of_ble_eq_true rfl) (Nat.le_of_ble_eq_true rfl) ?_
            refine At.mono (show CallI (d + 4) MX3_firstOf [.ref 48, .int r60, .long r37, .long (gJ h60 12 3), .int (gI h60 12 0)] h60 _ from hv) ?_
            rintro _ h107 ⟨r107, rfl, eT107, hv⟩
            show At (d + 5) MX10_fewest 110 [.ref 1, .int x1, .long r37, un, .int r60, un] [.int r107] h107 Q
            refine At_istore (L' := [.ref 1, .int x1, .long r37, un, .int r60, .int r107]) (pc' := 112) iX10_fewest_110 rfl (Nat.le_of_ble_eq_true rfl) rfl ?_
            refine At_iload_n (pc' := 113) iX10_fewest_112 rfl rfl ?_
            refine At_iconst (v := nI 1) (pc' := 114) iX10_fewest_113 rfl (by decide) ?_
            refine At_icmp_ne (t := 125) (pc' := 117) iX10_fewest_114 (by decide) rfl (fun c114 => ?_) (fun c114 => ?_)
            · have hv := hv.2 c114
              refine At_iload (pc' := 127) iX10_fewest_125 rfl rfl ?_
              refine At_stat (pc' := 130) iX10_fewest_127 rfl m_10_205 rfl rfl (Nat.le_of_ble_eq_true rfl) (Nat.le_of_ble_eq_true rfl) (Nat.le_of_ble_eq_true rfl) ?_
              refine c_X4_to (h := h107) r107   (show At (d + 5) MX10_fewest 130 [.ref 1, .int x1, .long r37, un, .int r60, .int r107] [.int (r_X4_to r107)] h107 Q from ?_)
              exact At_retI iX10_fewest_130 rfl hv
            · have hv := hv.1 c114
              refine At_iload (pc' := 119) iX10_fewest_117 rfl rfl ?_
              refine At_stat (pc' := 122) iX10_fewest_119 rfl m_10_199 rfl rfl (Nat.le_of_ble_eq_true rfl) (Nat.le_of_ble_eq_true rfl) (Nat.le_of_ble_eq_true rfl) ?_
              refine c_X4_from (h := h107) r107   (show At (d + 5) MX10_fewest 122 [.ref 1, .int x1, .long r37, un, .int r60, .int r107] [.int (r_X4_from r107)] h107 Q from ?_)
              refine At_goto (t := 130) iX10_fewest_122 (by decide) ?_
              exact At_retI iX10_fewest_130 rfl hv
          · have hv := hv.1 c72
            refine At_iload_n (pc' := 76) iX10_fewest_75 rfl rfl ?_
            refine At_if_ne (t := 84) (pc' := 79) iX10_fewest_76 (by decide) rfl (fun c76 => ?_) (fun c76 => ?_)
            · have hv := hv.2 c76
              refine At_iconst (v := (-1)) (pc' := 85) iX10_fewest_84 rfl (by decide) ?_
              exact At_retI iX10_fewest_85 rfl hv
            · have hv := hv.1 c76
              refine At_iload (pc' := 81) iX10_fewest_79 rfl rfl ?_
              refine At_goto (t := 85) iX10_fewest_81 (by decide) ?_
              exact At_retI iX10_fewest_85 rfl hv
      · have hv := hv.1 c18
        refine At_iconst (v := (-1)) (pc' := 22) iX10_fewest_21 rfl (by decide) ?_
        exact At_retI iX10_fewest_22 rfl hv
-- X10_lay (ex)
set_option maxRecDepth 20000 in
theorem b_X10_lay {d : Nat} {T : HT} (hL : Lay T) {h : Hp} (eT : h.2.2 = T) (x1 : Int32)  {Q : Option Value → Hp → Prop} (hv : (((r_X10_isSong x1) = true) → (∃ k21 : Nat, x1 = nI k21 ∧ k21 < 4 ∧ (CallI (d + 4) MX8_strandsToDye [.ref 12, .ref (20 + 2 * k21)] h (fun r22 h22 => h22.2.2 = T ∧ (Q (some (.int r22)) h22))))) ∧ (¬ ((r_X10_isSong x1) = true) → (Q (some (.int (-1))) h))) : Call (d + 5) MX10_lay [.ref 1, .int x1] h Q := by
  show At (d + 5) MX10_lay 0 [.ref 1, .int x1] [] h Q
  refine At_iload_n (pc' := 1) iX10_lay_0 rfl rfl ?_
  refine At_stat (pc' := 4) iX10_lay_1 rfl m_10_106 rfl rfl (Nat.le_of_ble_eq_true rfl) (Nat.le_of_ble_eq_true rfl) (Nat.le_of_ble_eq_true rfl) ?_
  refine c_X10_isSong (h := h) x1   (show At (d + 5) MX10_lay 4 [.ref 1, .int x1] [.int (b2i (r_X10_isSong x1))] h Q from ?_)
  refine At_zne (t := 9) (pc' := 7) iX10_lay_4 (by decide) rfl (fun c4 => ?_) (fun c4 => ?_)
  · have hv := hv.1 c4
    refine At_aload_n (pc' := 10) iX10_lay_9 rfl rfl ?_
    refine At_getR (pc' := 13) iX10_lay_10 rfl f_10_19 (kdK eT (kd_1 hL)) (by decide) (rfH eT (rf_1_1 hL)) ?_
    refine At_aload_n (pc' := 14) iX10_lay_13 rfl rfl ?_
    refine At_getR (pc' := 17) iX10_lay_14 rfl f_10_19 (kdK eT (kd_1 hL)) (by decide) (rfH eT (rf_1_1 hL)) ?_
    refine At_getR (pc' := 20) iX10_lay_17 rfl f_10_115 (kdK eT (kd_12 hL)) (by decide) (rfH eT (rf_12_5 hL)) ?_
    refine At_iload_n (pc' := 21) iX10_lay_20 rfl rfl ?_
    obtain ⟨k21, e21, hk21, hv⟩ := hv
    refine At_aald (b := (20 + 2 * k21)) (pc' := 22) iX10_lay_21 rfl (kdH eT (kd_14 hL)) (by decide) (by rw [e21]; exact inB_nI hk21 (by decide)) (by rw [e21, nI_clamp (by omega)]; exact rfH eT (rf_song hL hk21)) ?_
    refine At_virt (pc' := 25) iX10_lay_22 rfl m_10_226 rfl rfl (kdK eT (kd_12 hL)) (Nat.le_of_ble_eq_true rfl) (Nat.le_of_ble_eq_true rfl) ?_
    refine At.mono (show CallI (d + 4) MX8_strandsToDye [.ref 12, .ref (20 + 2 * k21)] h _ from hv) ?_
    rintro _ h22 ⟨r22, rfl, eT22, hv⟩
    show At (d + 5) MX10_lay 25 [.ref 1, .int x1] [.int r22] h22 Q
    exact At_retI iX10_lay_25 rfl hv
  · have hv := hv.2 c4
    refine At_iconst (v := (-1)) (pc' := 8) iX10_lay_7 rfl (by decide) ?_
    exact At_retI iX10_lay_8 rfl hv
-- X10_sing (loop)
def L_X10_sing_25 (d : Nat) (x1 : Int32) (x2 : Int32) (x3 : Int32) (x4 : Int32) (h : Hp) (Q : Option Value → Hp → Prop) : Prop := At (d + 5) MX10_sing 25 [.ref 1, .int x1, .int x2, .int x3, .int x4] [] h Q
set_option maxRecDepth 20000 in
theorem b_X10_sing {d : Nat} {T : HT} (hL : Lay T) {h : Hp} (eT : h.2.2 = T) (x1 : Int32) (x2 : Int32)  {Q : Option Value → Hp → Prop} (hv : (((r_X10_isSong x1) = true) → (((x2 < (nI 1)) → (Q (some (.int (-1))) h)) ∧ (¬ (x2 < (nI 1)) → ((((nI 50) < x2) → (Q (some (.int (-1))) h)) ∧ (¬ ((nI 50) < x2) → (L_X10_sing_25 d x1 x2 (nI 0) (nI 0) h Q)))))) ∧ (¬ ((r_X10_isSong x1) = true) → (Q (some (.int (-1))) h))) : Call (d + 5) MX10_sing [.ref 1, .int x1, .int x2] h Q := by
  show At (d + 5) MX10_sing 0 [.ref 1, .int x1, .int x2, un, un] [] h Q
  refine At_iload_n (pc' := 1) iX10_sing_0 rfl rfl ?_
  refine At_stat (pc' := 4) iX10_sing_1 rfl m_10_106 rfl rfl (Nat.le_of_ble_eq_true rfl) (Nat.le_of_ble_eq_true rfl) (Nat.le_of_ble_eq_true rfl) ?_
  refine c_X10_isSong (h := h) x1   (show At (d + 5) MX10_sing 4 [.ref 1, .int x1, .int x2, un, un] [.int (b2i (r_X10_isSong x1))] h Q from ?_)
  refine At_zeq (t := 18) (pc' := 7) iX10_sing_4 (by decide) rfl (fun c4 => ?_) (fun c4 => ?_)
  · have hv := hv.2 c4
    refine At_iconst (v := (-1)) (pc' := 19) iX10_sing_18 rfl (by decide) ?_
    exact At_retI iX10_sing_19 rfl hv
  · have hv := hv.1 c4
    refine At_iload_n (pc' := 8) iX10_sing_7 rfl rfl ?_
    refine At_iconst (v := nI 1) (pc' := 9) iX10_sing_8 rfl (by decide) ?_
    refine At_icmp_lt (t := 18) (pc' := 12) iX10_sing_9 (by decide) rfl (fun c9 => ?_) (fun c9 => ?_)
    · have hv := hv.1 c9
      refine At_iconst (v := (-1)) (pc' := 19) iX10_sing_18 rfl (by decide) ?_
      exact At_retI iX10_sing_19 rfl hv
    · have hv := hv.2 c9
      refine At_iload_n (pc' := 13) iX10_sing_12 rfl rfl ?_
      refine At_bipush (v := nI 50) (pc' := 15) iX10_sing_13 rfl (by decide) ?_
      refine At_icmp_le (t := 20) (pc' := 18) iX10_sing_15 (by decide) rfl (fun c15 => ?_) (fun c15 => ?_)
      · have hv := hv.2 c15
        refine At_iconst (v := nI 0) (pc' := 21) iX10_sing_20 rfl (by decide) ?_
        refine At_istore_n (L' := [.ref 1, .int x1, .int x2, .int (nI 0), un]) (pc' := 22) iX10_sing_21 rfl (Nat.le_of_ble_eq_true rfl) rfl ?_
        refine At_iconst (v := nI 0) (pc' := 23) iX10_sing_22 rfl (by decide) ?_
        refine At_istore (L' := [.ref 1, .int x1, .int x2, .int (nI 0), .int (nI 0)]) (pc' := 25) iX10_sing_23 rfl (Nat.le_of_ble_eq_true rfl) rfl ?_
        exact hv
      · have hv := hv.1 c15
        refine At_iconst (v := (-1)) (pc' := 19) iX10_sing_18 rfl (by decide) ?_
        exact At_retI iX10_sing_19 rfl hv
set_option maxRecDepth 20000 in
theorem b_X10_sing_25 {d : Nat} {T : HT} (hL : Lay T) {h : Hp} (eT : h.2.2 = T) (x1 : Int32) (x2 : Int32) (x3 : Int32) (x4 : Int32)  {Q : Option Value → Hp → Prop} (hv : ((x4 < x2) → (CallV (d + 4) MX2_remember [.ref 28, .ref 15] h (fun h42 => h42.2.2 = T ∧ (∃ k58 : Nat, x1 = nI k58 ∧ k58 < 4 ∧ (CallI (d + 4) MX8_singOnce [.ref 12, .ref (20 + 2 * k58)] h42 (fun r59 h59 => h59.2.2 = T ∧ (L_X10_sing_25 d x1 x2 (x3 + r59) (x4 + nI 1) h59 Q))))))) ∧ (¬ (x4 < x2) → (Q (some (.int x3)) h))) : L_X10_sing_25 d x1 x2 x3 x4 h Q := by
  refine At_iload (pc' := 27) iX10_sing_25 rfl rfl ?_
  refine At_iload_n (pc' := 28) iX10_sing_27 rfl rfl ?_
  refine At_icmp_ge (t := 70) (pc' := 31) iX10_sing_28 (by decide) rfl (fun c28 => ?_) (fun c28 => ?_)
  · have hv := hv.2 c28
    refine At_iload_n (pc' := 71) iX10_sing_70 rfl rfl ?_
    exact At_retI iX10_sing_71 rfl hv
  · have hv := hv.1 c28
    refine At_aload_n (pc' := 32) iX10_sing_31 rfl rfl ?_
    refine At_getR (pc' := 35) iX10_sing_32 rfl f_10_26 (kdK eT (kd_1 hL)) (by decide) (rfH eT (rf_1_2 hL)) ?_
    refine At_aload_n (pc' := 36) iX10_sing_35 rfl rfl ?_
    refine At_getR (pc' := 39) iX10_sing_36 rfl f_10_19 (kdK eT (kd_1 hL)) (by decide) (rfH eT (rf_1_1 hL)) ?_
    refine At_getR (pc' := 42) iX10_sing_39 rfl f_10_57 (kdK eT (kd_12 hL)) (by decide) (rfH eT (rf_12_6 hL)) ?_
    refine At_virt (pc' := 45) iX10_sing_42 rfl m_10_138 rfl rfl (kdK eT (kd_28 hL)) (Nat.le_of_ble_eq_true rfl) (Nat.le_of_ble_eq_true rfl) ?_
    refine At.mono (show CallV (d + 4) MX2_remember [.ref 28, .ref 15] h _ from hv) ?_
    rintro _ h42 ⟨rfl, eT42, hv⟩
    show At (d + 5) MX10_sing 45 [.ref 1, .int x1, .int x2, .int x3, .int x4] [] h42 Q
    refine At_iload_n (pc' := 46) iX10_sing_45 rfl rfl ?_
    refine At_aload_n (pc' := 47) iX10_sing_46 rfl rfl ?_
    refine At_getR (pc' := 50) iX10_sing_47 rfl f_10_19 (kdK eT42 (kd_1 hL)) (by decide) (rfH eT42 (rf_1_1 hL)) ?_
    refine At_aload_n (pc' := 51) iX10_sing_50 rfl rfl ?_
    refine At_getR (pc' := 54) iX10_sing_51 rfl f_10_19 (kdK eT42 (kd_1 hL)) (by decide) (rfH eT42 (rf_1_1 hL)) ?_
    refine At_getR (pc' := 57) iX10_sing_54 rfl f_10_115 (kdK eT42 (kd_12 hL)) (by decide) (rfH eT42 (rf_12_5 hL)) ?_
    refine At_iload_n (pc' := 58) iX10_sing_57 rfl rfl ?_
    obtain ⟨k58, e58, hk58, hv⟩ := hv
    refine At_aald (b := (20 + 2 * k58)) (pc' := 59) iX10_sing_58 rfl (kdH eT42 (kd_14 hL)) (by decide) (by rw [e58]; exact inB_nI hk58 (by decide)) (by rw [e58, nI_clamp (by omega)]; exact rfH eT42 (rf_song hL hk58)) ?_
    refine At_virt (pc' := 62) iX10_sing_59 rfl m_10_142 rfl rfl (kdK eT42 (kd_12 hL)) (Nat.le_of_ble_eq_true rfl) (Nat.le_of_ble_eq_true rfl) ?_
    refine At.mono (show CallI (d + 4) MX8_singOnce [.ref 12, .ref (20 + 2 * k58)] h42 _ from hv) ?_
    rintro _ h59 ⟨r59, rfl, eT59, hv⟩
    show At (d + 5) MX10_sing 62 [.ref 1, .int x1, .int x2, .int x3, .int x4] [.int r59, .int x3] h59 Q
    refine At_iadd (pc' := 63) iX10_sing_62 rfl ?_
    refine At_istore_n (L' := [.ref 1, .int x1, .int x2, .int (x3 + r59), .int x4]) (pc' := 64) iX10_sing_63 rfl (Nat.le_of_ble_eq_true rfl) rfl ?_
    refine At_iinc (v := nI 1) (L' := [.ref 1, .int x1, .int x2, .int (x3 + r59), .int (x4 + nI 1)]) (pc' := 67) iX10_sing_64 rfl rfl (Nat.le_of_ble_eq_true rfl) (by decide) rfl ?_
    refine At_goto (t := 25) iX10_sing_67 (by decide) ?_
    exact hv
-- X11_dropped (calls X11_isWantedBehind)
def L_X11_dropped_61 (d : Nat) (x1 : Int32) (x2 : Int32) (x3 : Int32) (x4 : Int32) (x5 : Int32) (x6 : Int32) (x7 : Int32) (h : Hp) (Q : Option Value → Hp → Prop) : Prop := ∀ v8 : Value, At (d + 5) MX11_dropped 61 [.ref 59, .int x1, .int x2, .int x3, .int x4, .int x5, .int x6, .int x7, v8] [] h Q
def L_X11_dropped_75 (d : Nat) (x1 : Int32) (x2 : Int32) (x3 : Int32) (x4 : Int32) (x5 : Int32) (x6 : Int32) (x7 : Int32) (x8 : Int32) (h : Hp) (Q : Option Value → Hp → Prop) : Prop := At (d + 5) MX11_dropped 75 [.ref 59, .int x1, .int x2, .int x3, .int x4, .int x5, .int x6, .int x7, .int x8] [] h Q
set_option maxRecDepth 20000 in
theorem b_X11_dropped {d : Nat} {T : HT} (hL : Lay T) {h : Hp} (eT : h.2.2 = T) (x1 : Int32) (x2 : Int32) (x3 : Int32)  {Q : Option Value → Hp → Prop} (hv : (((r_X11_isSong x1) = true) → ((((r_X11_isIn x2 (nI 1) (nI 30)) = true) → ((((r_X11_isIn x3 (nI 0) (nI 2)) = true) → (CallZ (d + 4) MX11_isWantedBehind [.ref 59, .int x1, .int x2, .int (-1), .int (x2 + (nI 1))] h (fun r44 h44 => h44.2.2 = T ∧ (((r44 = true) → (L_X11_dropped_61 d x1 x2 x3 (nI 0 + nI 1) (-1) (x2 + (nI 1)) (nI 0) h44 Q)) ∧ (¬ (r44 = true) → (L_X11_dropped_61 d x1 x2 x3 (nI 0) (-1) (-1) (nI 0) h44 Q)))))) ∧ (¬ ((r_X11_isIn x3 (nI 0) (nI 2)) = true) → (Q (some (.int (-1))) h)))) ∧ (¬ ((r_X11_isIn x2 (nI 1) (nI 30)) = true) → (Q (some (.int (-1))) h)))) ∧ (¬ ((r_X11_isSong x1) = true) → (Q (some (.int (-1))) h))) : Call (d + 5) MX11_dropped [.ref 59, .int x1, .int x2, .int x3] h Q := by
  show At (d + 5) MX11_dropped 0 [.ref 59, .int x1, .int x2, .int x3, un, un, un, un, un] [] h Q
  refine At_iload_n (pc' := 1) iX11_dropped_0 rfl rfl ?_
  refine At_stat (pc' := 4) iX11_dropped_1 rfl m_11_178 rfl rfl (Nat.le_of_ble_eq_true rfl) (Nat.le_of_ble_eq_true rfl) (Nat.le_of_ble_eq_true rfl) ?_
  refine c_X11_isSong (h := h) x1   (show At (d + 5) MX11_dropped 4 [.ref 59, .int x1, .int x2, .int x3, un, un, un, un, un] [.int (b2i (r_X11_isSong x1))] h Q from ?_)
  refine At_zeq (t := 26) (pc' := 7) iX11_dropped_4 (by decide) rfl (fun c4 => ?_) (fun c4 => ?_)
  · have hv := hv.2 c4
    refine At_iconst (v := (-1)) (pc' := 27) iX11_dropped_26 rfl (by decide) ?_
    exact At_retI iX11_dropped_27 rfl hv
  · have hv := hv.1 c4
    refine At_iload_n (pc' := 8) iX11_dropped_7 rfl rfl ?_
    refine At_iconst (v := nI 1) (pc' := 9) iX11_dropped_8 rfl (by decide) ?_
    refine At_bipush (v := nI 30) (pc' := 11) iX11_dropped_9 rfl (by decide) ?_
    refine At_stat (pc' := 14) iX11_dropped_11 rfl m_11_72 rfl rfl (Nat.le_of_ble_eq_true rfl) (Nat.le_of_ble_eq_true rfl) (Nat.le_of_ble_eq_true rfl) ?_
    refine c_X11_isIn (h := h) x2 (nI 1) (nI 30)   (show At (d + 5) MX11_dropped 14 [.ref 59, .int x1, .int x2, .int x3, un, un, un, un, un] [.int (b2i (r_X11_isIn x2 (nI 1) (nI 30)))] h Q from ?_)
    refine At_zeq (t := 26) (pc' := 17) iX11_dropped_14 (by decide) rfl (fun c14 => ?_) (fun c14 => ?_)
    · have hv := hv.2 c14
      refine At_iconst (v := (-1)) (pc' := 27) iX11_dropped_26 rfl (by decide) ?_
      exact At_retI iX11_dropped_27 rfl hv
    · have hv := hv.1 c14
      refine At_iload_n (pc' := 18) iX11_dropped_17 rfl rfl ?_
      refine At_iconst (v := nI 0) (pc' := 19) iX11_dropped_18 rfl (by decide) ?_
      refine At_iconst (v := nI 2) (pc' := 20) iX11_dropped_19 rfl (by decide) ?_
      refine At_stat (pc' := 23) iX11_dropped_20 rfl m_11_72 rfl rfl (Nat.le_of_ble_eq_true rfl) (Nat.le_of_ble_eq_true rfl) (Nat.le_of_ble_eq_true rfl) ?_
      refine c_X11_isIn (h := h) x3 (nI 0) (nI 2)   (show At (d + 5) MX11_dropped 23 [.ref 59, .int x1, .int x2, .int x3, un, un, un, un, un] [.int (b2i (r_X11_isIn x3 (nI 0) (nI 2)))] h Q from ?_)
      refine At_zne (t := 28) (pc' := 26) iX11_dropped_23 (by decide) rfl (fun c23 => ?_) (fun c23 => ?_)
      · have hv := hv.1 c23
        refine At_iconst (v := nI 0) (pc' := 29) iX11_dropped_28 rfl (by decide) ?_
        refine At_istore (L' := [.ref 59, .int x1, .int x2, .int x3, .int (nI 0), un, un, un, un]) (pc' := 31) iX11_dropped_29 rfl (Nat.le_of_ble_eq_true rfl) rfl ?_
        refine At_iconst (v := (-1)) (pc' := 32) iX11_dropped_31 rfl (by decide) ?_
        refine At_istore (L' := [.ref 59, .int x1, .int x2, .int x3, .int (nI 0), .int (-1), un, un, un]) (pc' := 34) iX11_dropped_32 rfl (Nat.le_of_ble_eq_true rfl) rfl ?_
        refine At_iconst (v := (-1)) (pc' := 35) iX11_dropped_34 rfl (by decide) ?_
        refine At_istore (L' := [.ref 59, .int x1, .int x2, .int x3, .int (nI 0), .int (-1), .int (-1), un, un]) (pc' := 37) iX11_dropped_35 rfl (Nat.le_of_ble_eq_true rfl) rfl ?_
        refine At_aload_n (pc' := 38) iX11_dropped_37 rfl rfl ?_
        refine At_iload_n (pc' := 39) iX11_dropped_38 rfl rfl ?_
        refine At_iload_n (pc' := 40) iX11_dropped_39 rfl rfl ?_
        refine At_iconst (v := (-1)) (pc' := 41) iX11_dropped_40 rfl (by decide) ?_
        refine At_iload_n (pc' := 42) iX11_dropped_41 rfl rfl ?_
        refine At_iconst (v := nI 1) (pc' := 43) iX11_dropped_42 rfl (by decide) ?_
        refine At_iadd (pc' := 44) iX11_dropped_43 rfl ?_
        refine At_virt (pc' := 47) iX11_dropped_44 rfl m_11_254 rfl rfl (kdK eT (kd_59 hL)) (Nat.le_of_ble_eq_true rfl) (Nat.le_of_ble_eq_true rfl) ?_
        refine At.mono (show CallZ (d + 4) MX11_isWantedBehind [.ref 59, .int x1, .int x2, .int (-1), .int (x2 + (nI 1))] h _ from hv) ?_
        rintro _ h44 ⟨r44, rfl, eT44, hv⟩
        show At (d + 5) MX11_dropped 47 [.ref 59, .int x1, .int x2, .int x3, .int (nI 0), .int (-1), .int (-1), un, un] [.int (b2i r44)] h44 Q
        refine At_zeq (t := 58) (pc' := 50) iX11_dropped_47 (by decide) rfl (fun c47 => ?_) (fun c47 => ?_)
        · have hv := hv.2 c47
          refine At_iconst (v := nI 0) (pc' := 59) iX11_dropped_58 rfl (by decide) ?_
          refine At_istore (L' := [.ref 59, .int x1, .int x2, .int x3, .int (nI 0), .int (-1), .int (-1), .int (nI 0), un]) (pc' := 61) iX11_dropped_59 rfl (Nat.le_of_ble_eq_true rfl) rfl ?_
          exact hv _
        · have hv := hv.1 c47
          refine At_iload_n (pc' := 51) iX11_dropped_50 rfl rfl ?_
          refine At_iconst (v := nI 1) (pc' := 52) iX11_dropped_51 rfl (by decide) ?_
          refine At_iadd (pc' := 53) iX11_dropped_52 rfl ?_
          refine At_istore (L' := [.ref 59, .int x1, .int x2, .int x3, .int (nI 0), .int (-1), .int (x2 + (nI 1)), un, un]) (pc' := 55) iX11_dropped_53 rfl (Nat.le_of_ble_eq_true rfl) rfl ?_
          refine At_iinc (v := nI 1) (L' := [.ref 59, .int x1, .int x2, .int x3, .int (nI 0 + nI 1), .int (-1), .int (x2 + (nI 1)), un, un]) (pc' := 58) iX11_dropped_55 rfl rfl (Nat.le_of_ble_eq_true rfl) (by decide) rfl ?_
          refine At_iconst (v := nI 0) (pc' := 59) iX11_dropped_58 rfl (by decide) ?_
          refine At_istore (L' := [.ref 59, .int x1, .int x2, .int x3, .int (nI 0 + nI 1), .int (-1), .int (x2 + (nI 1)), .int (nI 0), un]) (pc' := 61) iX11_dropped_59 rfl (Nat.le_of_ble_eq_true rfl) rfl ?_
          exact hv _
      · have hv := hv.2 c23
        refine At_iconst (v := (-1)) (pc' := 27) iX11_dropped_26 rfl (by decide) ?_
        exact At_retI iX11_dropped_27 rfl hv
set_option maxRecDepth 20000 in
theorem b_X11_dropped_61 {d : Nat} {T : HT} (hL : Lay T) {h : Hp} (eT : h.2.2 = T) (x1 : Int32) (x2 : Int32) (x3 : Int32) (x4 : Int32) (x5 : Int32) (x6 : Int32) (x7 : Int32)  {Q : Option Value → Hp → Prop} (hv : ((x7 < (gI h 60 0)) → (L_X11_dropped_75 d x1 x2 x3 x4 x5 x6 x7 (nI 1) h Q)) ∧ (¬ (x7 < (gI h 60 0)) → (((x3 = 0) → (Q (some (.int x4)) h)) ∧ (¬ (x3 = 0) → (((x3 = (nI 1)) → (Q (some (.int x5)) h)) ∧ (¬ (x3 = (nI 1)) → (Q (some (.int x6)) h))))))) : L_X11_dropped_61 d x1 x2 x3 x4 x5 x6 x7 h Q := by
  intro v8
  refine At_iload (pc' := 63) iX11_dropped_61 rfl rfl ?_
  refine At_aload_n (pc' := 64) iX11_dropped_63 rfl rfl ?_
  refine At_getR (pc' := 67) iX11_dropped_64 rfl f_11_7 (kdK eT (kd_59 hL)) (by decide) (rfH eT (rf_59_0 hL)) ?_
  refine At_iconst (v := nI 0) (pc' := 68) iX11_dropped_67 rfl (by decide) ?_
  refine At_iald (pc' := 69) iX11_dropped_68 rfl (kdH eT (kd_60 hL)) (by decide) (show At (d + 5) MX11_dropped 69 [.ref 59, .int x1, .int x2, .int x3, .int x4, .int x5, .int x6, .int x7, v8] [.int (gI h 60 0), .int x7] h Q from ?_)
  refine At_icmp_ge (t := 140) (pc' := 72) iX11_dropped_69 (by decide) rfl (fun c69 => ?_) (fun c69 => ?_)
  · have hv := hv.2 c69
    refine At_iload_n (pc' := 141) iX11_dropped_140 rfl rfl ?_
    refine At_if_ne (t := 149) (pc' := 144) iX11_dropped_141 (by decide) rfl (fun c141 => ?_) (fun c141 => ?_)
    · have hv := hv.2 c141
      refine At_iload_n (pc' := 150) iX11_dropped_149 rfl rfl ?_
      refine At_iconst (v := nI 1) (pc' := 151) iX11_dropped_150 rfl (by decide) ?_
      refine At_icmp_ne (t := 159) (pc' := 154) iX11_dropped_151 (by decide) rfl (fun c151 => ?_) (fun c151 => ?_)
      · have hv := hv.2 c151
        refine At_iload (pc' := 161) iX11_dropped_159 rfl rfl ?_
        exact At_retI iX11_dropped_161 rfl hv
      · have hv := hv.1 c151
        refine At_iload (pc' := 156) iX11_dropped_154 rfl rfl ?_
        refine At_goto (t := 161) iX11_dropped_156 (by decide) ?_
        exact At_retI iX11_dropped_161 rfl hv
    · have hv := hv.1 c141
      refine At_iload (pc' := 146) iX11_dropped_144 rfl rfl ?_
      refine At_goto (t := 161) iX11_dropped_146 (by decide) ?_
      exact At_retI iX11_dropped_161 rfl hv
  · have hv := hv.1 c69
    refine At_iconst (v := nI 1) (pc' := 73) iX11_dropped_72 rfl (by decide) ?_
    refine At_istore (L' := [.ref 59, .int x1, .int x2, .int x3, .int x4, .int x5, .int x6, .int x7, .int (nI 1)]) (pc' := 75) iX11_dropped_73 rfl (Nat.le_of_ble_eq_true rfl) rfl ?_
    exact hv
set_option maxRecDepth 20000 in
theorem b_X11_dropped_75 {d : Nat} {T : HT} (hL : Lay T) {h : Hp} (eT : h.2.2 = T) (x1 : Int32) (x2 : Int32) (x3 : Int32) (x4 : Int32) (x5 : Int32) (x6 : Int32) (x7 : Int32) (x8 : Int32)  {Q : Option Value → Hp → Prop} (hv : ((x2 < x8) → (L_X11_dropped_61 d x1 x2 x3 x4 x5 x6 (x7 + nI 1) h Q)) ∧ (¬ (x2 < x8) → (CallZ (d + 4) MX11_isWantedBehind [.ref 59, .int x1, .int x2, .int x7, .int x8] h (fun r88 h88 => h88.2.2 = T ∧ (((r88 = true) → (((x4 = 0) → (((x4 = 0) → (L_X11_dropped_75 d x1 x2 x3 (x4 + nI 1) x7 x8 x7 (x8 + nI 1) h88 Q)) ∧ (¬ (x4 = 0) → (L_X11_dropped_75 d x1 x2 x3 (x4 + nI 1) x7 x6 x7 (x8 + nI 1) h88 Q)))) ∧ (¬ (x4 = 0) → (((x4 = 0) → (L_X11_dropped_75 d x1 x2 x3 (x4 + nI 1) x5 x8 x7 (x8 + nI 1) h88 Q)) ∧ (¬ (x4 = 0) → (L_X11_dropped_75 d x1 x2 x3 (x4 + nI 1) x5 x6 x7 (x8 + nI 1) h88 Q)))))) ∧ (¬ (r88 = true) → (L_X11_dropped_75 d x1 x2 x3 x4 x5 x6 x7 (x8 + nI 1) h88 Q))))))) : L_X11_dropped_75 d x1 x2 x3 x4 x5 x6 x7 x8 h Q := by
  refine At_iload (pc' := 77) iX11_dropped_75 rfl rfl ?_
  refine At_iload_n (pc' := 78) iX11_dropped_77 rfl rfl ?_
  refine At_icmp_gt (t := 134) (pc' := 81) iX11_dropped_78 (by decide) rfl (fun c78 => ?_) (fun c78 => ?_)
  · have hv := hv.1 c78
    refine At_iinc (v := nI 1) (L' := [.ref 59, .int x1, .int x2, .int x3, .int x4, .int x5, .int x6, .int (x7 + nI 1), .int x8]) (pc' := 137) iX11_dropped_134 rfl rfl (Nat.le_of_ble_eq_true rfl) (by decide) rfl ?_
    refine At_goto (t := 61) iX11_dropped_137 (by decide) ?_
    exact hv _
  · have hv := hv.2 c78
    refine At_aload_n (pc' := 82) iX11_dropped_81 rfl rfl ?_
    refine At_iload_n (pc' := 83) iX11_dropped_82 rfl rfl ?_
    refine At_iload_n (pc' := 84) iX11_dropped_83 rfl rfl ?_
    refine At_iload (pc' := 86) iX11_dropped_84 rfl rfl ?_
    refine At_iload (pc' := 88) iX11_dropped_86 rfl rfl ?_
    refine At_virt (pc' := 91) iX11_dropped_88 rfl m_11_254 rfl rfl (kdK eT (kd_59 hL)) (Nat.le_of_ble_eq_true rfl) (Nat.le_of_ble_eq_true rfl) ?_
    refine At.mono (show CallZ (d + 4) MX11_isWantedBehind [.ref 59, .int x1, .int x2, .int x7, .int x8] h _ from hv) ?_
    rintro _ h88 ⟨r88, rfl, eT88, hv⟩
    show At (d + 5) MX11_dropped 91 [.ref 59, .int x1, .int x2, .int x3, .int x4, .int x5, .int x6, .int x7, .int x8] [.int (b2i r88)] h88 Q
    refine At_zne (t := 97) (pc' := 94) iX11_dropped_91 (by decide) rfl (fun c91 => ?_) (fun c91 => ?_)
    · have hv := hv.1 c91
      refine At_iload (pc' := 99) iX11_dropped_97 rfl rfl ?_
      refine At_if_ne (t := 107) (pc' := 102) iX11_dropped_99 (by decide) rfl (fun c99 => ?_) (fun c99 => ?_)
      · have hv := hv.2 c99
        refine At_iload (pc' := 109) iX11_dropped_107 rfl rfl ?_
        refine At_istore (L' := [.ref 59, .int x1, .int x2, .int x3, .int x4, .int x5, .int x6, .int x7, .int x8]) (pc' := 111) iX11_dropped_109 rfl (Nat.le_of_ble_eq_true rfl) rfl ?_
        refine At_iload (pc' := 113) iX11_dropped_111 rfl rfl ?_
        refine At_if_ne (t := 121) (pc' := 116) iX11_dropped_113 (by decide) rfl (fun c113 => ?_) (fun c113 => ?_)
        · have hv := hv.2 c113
          refine At_iload (pc' := 123) iX11_dropped_121 rfl rfl ?_
          refine At_istore (L' := [.ref 59, .int x1, .int x2, .int x3, .int x4, .int x5, .int x6, .int x7, .int x8]) (pc' := 125) iX11_dropped_123 rfl (Nat.le_of_ble_eq_true rfl) rfl ?_
          refine At_iinc (v := nI 1) (L' := [.ref 59, .int x1, .int x2, .int x3, .int (x4 + nI 1), .int x5, .int x6, .int x7, .int x8]) (pc' := 128) iX11_dropped_125 rfl rfl (Nat.le_of_ble_eq_true rfl) (by decide) rfl ?_
          refine At_iinc (v := nI 1) (L' := [.ref 59, .int x1, .int x2, .int x3, .int (x4 + nI 1), .int x5, .int x6, .int x7, .int (x8 + nI 1)]) (pc' := 131) iX11_dropped_128 rfl rfl (Nat.le_of_ble_eq_true rfl) (by decide) rfl ?_
          refine At_goto (t := 75) iX11_dropped_131 (by decide) ?_
          exact hv
        · have hv := hv.1 c113
          refine At_iload (pc' := 118) iX11_dropped_116 rfl rfl ?_
          refine At_goto (t := 123) iX11_dropped_118 (by decide) ?_
          refine At_istore (L' := [.ref 59, .int x1, .int x2, .int x3, .int x4, .int x5, .int x8, .int x7, .int x8]) (pc' := 125) iX11_dropped_123 rfl (Nat.le_of_ble_eq_true rfl) rfl ?_
          refine At_iinc (v := nI 1) (L' := [.ref 59, .int x1, .int x2, .int x3, .int (x4 + nI 1), .int x5, .int x8, .int x7, .int x8]) (pc' := 128) iX11_dropped_125 rfl rfl (Nat.le_of_ble_eq_true rfl) (by decide) rfl ?_
          refine At_iinc (v := nI 1) (L' := [.ref 59, .int x1, .int x2, .int x3, .int (x4 + nI 1), .int x5, .int x8, .int x7, .int (x8 + nI 1)]) (pc' := 131) iX11_dropped_128 rfl rfl (Nat.le_of_ble_eq_true rfl) (by decide) rfl ?_
          refine At_goto (t := 75) iX11_dropped_131 (by decide) ?_
          exact hv
      · have hv := hv.1 c99
        refine At_iload (pc' := 104) iX11_dropped_102 rfl rfl ?_
        refine At_goto (t := 109) iX11_dropped_104 (by decide) ?_
        refine At_istore (L' := [.ref 59, .int x1, .int x2, .int x3, .int x4, .int x7, .int x6, .int x7, .int x8]) (pc' := 111) iX11_dropped_109 rfl (Nat.le_of_ble_eq_true rfl) rfl ?_
        refine At_iload (pc' := 113) iX11_dropped_111 rfl rfl ?_
        refine At_if_ne (t := 121) (pc' := 116) iX11_dropped_113 (by decide) rfl (fun c113 => ?_) (fun c113 => ?_)
        · have hv := hv.2 c113
          refine At_iload (pc' := 123) iX11_dropped_121 rfl rfl ?_
          refine At_istore (L' := [.ref 59, .int x1, .int x2, .int x3, .int x4, .int x7, .int x6, .int x7, .int x8]) (pc' := 125) iX11_dropped_123 rfl (Nat.le_of_ble_eq_true rfl) rfl ?_
          refine At_iinc (v := nI 1) (L' := [.ref 59, .int x1, .int x2, .int x3, .int (x4 + nI 1), .int x7, .int x6, .int x7, .int x8]) (pc' := 128) iX11_dropped_125 rfl rfl (Nat.le_of_ble_eq_true rfl) (by decide) rfl ?_
          refine At_iinc (v := nI 1) (L' := [.ref 59, .int x1, .int x2, .int x3, .int (x4 + nI 1), .int x7, .int x6, .int x7, .int (x8 + nI 1)]) (pc' := 131) iX11_dropped_128 rfl rfl (Nat.le_of_ble_eq_true rfl) (by decide) rfl ?_
          refine At_goto (t := 75) iX11_dropped_131 (by decide) ?_
          exact hv
        · have hv := hv.1 c113
          refine At_iload (pc' := 118) iX11_dropped_116 rfl rfl ?_
          refine At_goto (t := 123) iX11_dropped_118 (by decide) ?_
          refine At_istore (L' := [.ref 59, .int x1, .int x2, .int x3, .int x4, .int x7, .int x8, .int x7, .int x8]) (pc' := 125) iX11_dropped_123 rfl (Nat.le_of_ble_eq_true rfl) rfl ?_
          refine At_iinc (v := nI 1) (L' := [.ref 59, .int x1, .int x2, .int x3, .int (x4 + nI 1), .int x7, .int x8, .int x7, .int x8]) (pc' := 128) iX11_dropped_125 rfl rfl (Nat.le_of_ble_eq_true rfl) (by decide) rfl ?_
          refine At_iinc (v := nI 1) (L' := [.ref 59, .int x1, .int x2, .int x3, .int (x4 + nI 1), .int x7, .int x8, .int x7, .int (x8 + nI 1)]) (pc' := 131) iX11_dropped_128 rfl rfl (Nat.le_of_ble_eq_true rfl) (by decide) rfl ?_
          refine At_goto (t := 75) iX11_dropped_131 (by decide) ?_
          exact hv
    · have hv := hv.2 c91
      refine At_goto (t := 128) iX11_dropped_94 (by decide) ?_
      refine At_iinc (v := nI 1) (L' := [.ref 59, .int x1, .int x2, .int x3, .int x4, .int x5, .int x6, .int x7, .int (x8 + nI 1)]) (pc' := 131) iX11_dropped_128 rfl rfl (Nat.le_of_ble_eq_true rfl) (by decide) rfl ?_
      refine At_goto (t := 75) iX11_dropped_131 (by decide) ?_
      exact hv
