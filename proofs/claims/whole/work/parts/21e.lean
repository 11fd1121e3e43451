-- blocks between loop heads; written out by gen20.py
-- X11_loops (loop)
def L_X11_loops_27 (d : Nat) (x2 : Int32) (x3 : Int32) (h : Hp) (Q : Option Value → Hp → Prop) : Prop := ∀ v1 : Value, At (d + 2) MX11_loops 27 [.ref 59, v1, .int x2, .int x3] [] h Q
set_option maxRecDepth 20000 in
theorem b_X11_loops {d : Nat} {T : HT} (hL : Lay T) {h : Hp} (eT : h.2.2 = T) (x1 : Int32)  {Q : Option Value → Hp → Prop} (hv : ((x1 = (-1)) → (L_X11_loops_27 d (nI 0) (nI 0) h Q)) ∧ (¬ (x1 = (-1)) → ((((r_X11_isSlot x1 h) = true) → (CallI (d + 1) MX11_ring [.ref 59, .int x1] h (fun r15 h15 => h15.2.2 = T ∧ (Q (some (.int r15)) h15)))) ∧ (¬ ((r_X11_isSlot x1 h) = true) → (Q (some (.int (-1))) h))))) : Call (d + 2) MX11_loops [.ref 59, .int x1] h Q := by
  show At (d + 2) MX11_loops 0 [.ref 59, .int x1, un, un] [] h Q
  refine At_iload_n (pc' := 1) iX11_loops_0 rfl rfl ?_
  refine At_iconst (v := (-1)) (pc' := 2) iX11_loops_1 rfl (by decide) ?_
  refine At_icmp_eq (t := 23) (pc' := 5) iX11_loops_2 (by decide) rfl (fun c2 => ?_) (fun c2 => ?_)
  · have hv := hv.1 c2
    refine At_iconst (v := nI 0) (pc' := 24) iX11_loops_23 rfl (by decide) ?_
    refine At_istore_n (L' := [.ref 59, .int x1, .int (nI 0), un]) (pc' := 25) iX11_loops_24 rfl (Nat.le_of_ble_eq_true rfl) rfl ?_
    refine At_iconst (v := nI 0) (pc' := 26) iX11_loops_25 rfl (by decide) ?_
    refine At_istore_n (L' := [.ref 59, .int x1, .int (nI 0), .int (nI 0)]) (pc' := 27) iX11_loops_26 rfl (Nat.le_of_ble_eq_true rfl) rfl ?_
    exact hv _
  · have hv := hv.2 c2
    refine At_aload_n (pc' := 6) iX11_loops_5 rfl rfl ?_
    refine At_iload_n (pc' := 7) iX11_loops_6 rfl rfl ?_
    refine At_virt (pc' := 10) iX11_loops_7 rfl m_11_78 rfl rfl (kdK eT (kd_59 hL)) (Nat.le_of_ble_eq_true rfl) (Nat.le_of_ble_eq_true rfl) ?_
    refine c_X11_isSlot (h := h) hL eT x1   (show At (d + 2) MX11_loops 10 [.ref 59, .int x1, un, un] [.int (b2i (r_X11_isSlot x1 h))] h Q from ?_)
    refine At_zeq (t := 21) (pc' := 13) iX11_loops_10 (by decide) rfl (fun c10 => ?_) (fun c10 => ?_)
    · have hv := hv.2 c10
      refine At_iconst (v := (-1)) (pc' := 22) iX11_loops_21 rfl (by decide) ?_
      exact At_retI iX11_loops_22 rfl hv
    · have hv := hv.1 c10
      refine At_aload_n (pc' := 14) iX11_loops_13 rfl rfl ?_
      refine At_iload_n (pc' := 15) iX11_loops_14 rfl rfl ?_
      refine At_virt (pc' := 18) iX11_loops_15 rfl m_11_273 rfl rfl (kdK eT (kd_59 hL)) (Nat.le_of_ble_eq_true rfl) (Nat.le_of_ble_eq_true rfl) ?_
      refine At.mono (show CallI (d + 1) MX11_ring [.ref 59, .int x1] h _ from hv) ?_
      rintro _ h15 ⟨r15, rfl, eT15, hv⟩
      show At (d + 2) MX11_loops 18 [.ref 59, .int x1, un, un] [.int r15] h15 Q
      refine At_goto (t := 22) iX11_loops_18 (by decide) ?_
      exact At_retI iX11_loops_22 rfl hv
set_option maxRecDepth 20000 in
theorem b_X11_loops_27 {d : Nat} {T : HT} (hL : Lay T) {h : Hp} (eT : h.2.2 = T) (x2 : Int32) (x3 : Int32)  {Q : Option Value → Hp → Prop} (hv : ((x3 < (gI h 60 0)) → (CallZ (d + 1) MX11_isLeast [.ref 59, .int x3] h (fun r40 h40 => h40.2.2 = T ∧ (((r40 = true) → (L_X11_loops_27 d (x2 + (nI 1)) (x3 + nI 1) h40 Q)) ∧ (¬ (r40 = true) → (L_X11_loops_27 d (x2 + (nI 0)) (x3 + nI 1) h40 Q)))))) ∧ (¬ (x3 < (gI h 60 0)) → (Q (some (.int x2)) h))) : L_X11_loops_27 d x2 x3 h Q := by
  intro v1
  refine At_iload_n (pc' := 28) iX11_loops_27 rfl rfl ?_
  refine At_aload_n (pc' := 29) iX11_loops_28 rfl rfl ?_
  refine At_getR (pc' := 32) iX11_loops_29 rfl f_11_7 (kdK eT (kd_59 hL)) (by decide) (rfH eT (rf_59_0 hL)) ?_
  refine At_iconst (v := nI 0) (pc' := 33) iX11_loops_32 rfl (by decide) ?_
  refine At_iald (pc' := 34) iX11_loops_33 rfl (kdH eT (kd_60 hL)) (by decide) (show At (d + 2) MX11_loops 34 [.ref 59, v1, .int x2, .int x3] [.int (gI h 60 0), .int x3] h Q from ?_)
  refine At_icmp_ge (t := 59) (pc' := 37) iX11_loops_34 (by decide) rfl (fun c34 => ?_) (fun c34 => ?_)
  · have hv := hv.2 c34
    refine At_iload_n (pc' := 60) iX11_loops_59 rfl rfl ?_
    exact At_retI iX11_loops_60 rfl hv
  · have hv := hv.1 c34
    refine At_iload_n (pc' := 38) iX11_loops_37 rfl rfl ?_
    refine At_aload_n (pc' := 39) iX11_loops_38 rfl rfl ?_
    refine At_iload_n (pc' := 40) iX11_loops_39 rfl rfl ?_
    refine At_virt (pc' := 43) iX11_loops_40 rfl m_11_276 rfl rfl (kdK eT (kd_59 hL)) (Nat.le_of_ble_eq_true rfl) (Nat.le_of_ble_eq_true rfl) ?_
    refine At.mono (show CallZ (d + 1) MX11_isLeast [.ref 59, .int x3] h _ from hv) ?_
    rintro _ h40 ⟨r40, rfl, eT40, hv⟩
    show At (d + 2) MX11_loops 43 [.ref 59, v1, .int x2, .int x3] [.int (b2i r40), .int x2] h40 Q
    refine At_zeq (t := 50) (pc' := 46) iX11_loops_43 (by decide) rfl (fun c43 => ?_) (fun c43 => ?_)
    · have hv := hv.2 c43
      refine At_iconst (v := nI 0) (pc' := 51) iX11_loops_50 rfl (by decide) ?_
      refine At_iadd (pc' := 52) iX11_loops_51 rfl ?_
      refine At_istore_n (L' := [.ref 59, (if 0 = 0 ∧ v1.category = 2 then un else v1), .int (x2 + (nI 0)), .int x3]) (pc' := 53) iX11_loops_52 rfl (Nat.le_of_ble_eq_true rfl) rfl ?_
      refine At_iinc (v := nI 1) (L' := [.ref 59, (if 0 = 0 ∧ v1.category = 2 then un else v1), .int (x2 + (nI 0)), .int (x3 + nI 1)]) (pc' := 56) iX11_loops_53 rfl rfl (Nat.le_of_ble_eq_true rfl) (by decide) rfl ?_
      refine At_goto (t := 27) iX11_loops_56 (by decide) ?_
      exact hv _
    · have hv := hv.1 c43
      refine At_iconst (v := nI 1) (pc' := 47) iX11_loops_46 rfl (by decide) ?_
      refine At_goto (t := 51) iX11_loops_47 (by decide) ?_
      refine At_iadd (pc' := 52) iX11_loops_51 rfl ?_
      refine At_istore_n (L' := [.ref 59, (if 0 = 0 ∧ v1.category = 2 then un else v1), .int (x2 + (nI 1)), .int x3]) (pc' := 53) iX11_loops_52 rfl (Nat.le_of_ble_eq_true rfl) rfl ?_
      refine At_iinc (v := nI 1) (L' := [.ref 59, (if 0 = 0 ∧ v1.category = 2 then un else v1), .int (x2 + (nI 1)), .int (x3 + nI 1)]) (pc' := 56) iX11_loops_53 rfl rfl (Nat.le_of_ble_eq_true rfl) (by decide) rfl ?_
      refine At_goto (t := 27) iX11_loops_56 (by decide) ?_
      exact hv _
-- X11_moves (calls X11_lifts)
set_option maxRecDepth 20000 in
theorem b_X11_moves {d : Nat} {T : HT} (hL : Lay T) {h : Hp} (eT : h.2.2 = T) (x1 : Int32) (x2 : Int32) (x3 : Int32) (x4 : Int32) (x5 : Int32) (x6 : Int32)  {Q : Option Value → Hp → Prop} (hv : (p_X11_ofMove x1 x2 (nI 0) h) ∧ ((p_X11_ofMove x1 x2 (nI 1) h) ∧ ((((r_X11_ofMove x1 x2 (nI 0) h) = (nI 2)) → (((x3 = 0) → ((¬ (gI h 60 0) = 0) ∧ (CallV (d + 1) MX11_turns [.ref 59, .int (irem (r_X11_ofMove x1 x2 (nI 1) h) (gI h 60 0))] h (fun h56 => h56.2.2 = T ∧ (Q (some (.int (-1))) h56))))) ∧ (¬ (x3 = 0) → ((¬ (gI h 60 0) = 0) ∧ ((¬ (gI h 60 0) = 0) ∧ (CallV (d + 1) MX11_turns [.ref 59, .int (irem ((gI h 60 0) - (irem (r_X11_ofMove x1 x2 (nI 1) h) (gI h 60 0))) (gI h 60 0))] h (fun h56 => h56.2.2 = T ∧ (Q (some (.int (-1))) h56)))))))) ∧ (¬ ((r_X11_ofMove x1 x2 (nI 0) h) = (nI 2)) → ((p_X11_ofMove x1 x2 (nI 2) h) ∧ (((x3 = 0) → ((inB (r_X11_ofMove x1 x2 (nI 1) h) 16 = true) ∧ ((p_X11_ofMove x1 x2 (nI 3) h) ∧ ((((gI h 65 ((r_X11_ofMove x1 x2 (nI 1) h).toNatClampNeg)) = x5) → (Q (some (.int (-1))) h)) ∧ (¬ ((gI h 65 ((r_X11_ofMove x1 x2 (nI 1) h).toNatClampNeg)) = x5) → (((x4 = 0) → ((((r_X11_ofMove x1 x2 (nI 0) h) = 0) → (CallV (d + 1) MX11_lifts [.ref 59, .int (r_X11_ofMove x1 x2 (nI 1) h), .int (r_X11_ofMove x1 x2 (nI 2) h), .int x6] h (fun h165 => h165.2.2 = T ∧ (Q (some (.int (gI h 65 ((r_X11_ofMove x1 x2 (nI 1) h).toNatClampNeg)))) h165)))) ∧ (¬ ((r_X11_ofMove x1 x2 (nI 0) h) = 0) → ((p_X11_swaps (r_X11_ofMove x1 x2 (nI 1) h) (r_X11_ofMove x1 x2 (nI 2) h) x6 h) ∧ (Q (some (.int (gI h 65 ((r_X11_ofMove x1 x2 (nI 1) h).toNatClampNeg)))) (w_X11_swaps (r_X11_ofMove x1 x2 (nI 1) h) (r_X11_ofMove x1 x2 (nI 2) h) x6 h)))))) ∧ (¬ (x4 = 0) → ((((r_X11_ofMove x1 x2 (nI 3) h) = (-1)) → ((((r_X11_ofMove x1 x2 (nI 0) h) = 0) → (CallV (d + 1) MX11_lifts [.ref 59, .int (r_X11_ofMove x1 x2 (nI 1) h), .int (r_X11_ofMove x1 x2 (nI 2) h), .int x6] h (fun h165 => h165.2.2 = T ∧ (Q (some (.int (gI h 65 ((r_X11_ofMove x1 x2 (nI 1) h).toNatClampNeg)))) h165)))) ∧ (¬ ((r_X11_ofMove x1 x2 (nI 0) h) = 0) → ((p_X11_swaps (r_X11_ofMove x1 x2 (nI 1) h) (r_X11_ofMove x1 x2 (nI 2) h) x6 h) ∧ (Q (some (.int (gI h 65 ((r_X11_ofMove x1 x2 (nI 1) h).toNatClampNeg)))) (w_X11_swaps (r_X11_ofMove x1 x2 (nI 1) h) (r_X11_ofMove x1 x2 (nI 2) h) x6 h)))))) ∧ (¬ ((r_X11_ofMove x1 x2 (nI 3) h) = (-1)) → ((inB ((nI 10) + (gI h 65 ((r_X11_ofMove x1 x2 (nI 1) h).toNatClampNeg))) 4180 = true) ∧ ((((gI h 60 (((nI 10) + (gI h 65 ((r_X11_ofMove x1 x2 (nI 1) h).toNatClampNeg))).toNatClampNeg)) = (r_X11_ofMove x1 x2 (nI 3) h)) → ((((r_X11_ofMove x1 x2 (nI 0) h) = 0) → (CallV (d + 1) MX11_lifts [.ref 59, .int (r_X11_ofMove x1 x2 (nI 1) h), .int (r_X11_ofMove x1 x2 (nI 2) h), .int x6] h (fun h165 => h165.2.2 = T ∧ (Q (some (.int (gI h 65 ((r_X11_ofMove x1 x2 (nI 1) h).toNatClampNeg)))) h165)))) ∧ (¬ ((r_X11_ofMove x1 x2 (nI 0) h) = 0) → ((p_X11_swaps (r_X11_ofMove x1 x2 (nI 1) h) (r_X11_ofMove x1 x2 (nI 2) h) x6 h) ∧ (Q (some (.int (gI h 65 ((r_X11_ofMove x1 x2 (nI 1) h).toNatClampNeg)))) (w_X11_swaps (r_X11_ofMove x1 x2 (nI 1) h) (r_X11_ofMove x1 x2 (nI 2) h) x6 h)))))) ∧ (¬ ((gI h 60 (((nI 10) + (gI h 65 ((r_X11_ofMove x1 x2 (nI 1) h).toNatClampNeg))).toNatClampNeg)) = (r_X11_ofMove x1 x2 (nI 3) h)) → (Q (some (.int (-1))) h))))))))))))) ∧ (¬ (x3 = 0) → ((inB (((gI h 60 0) - (nI 1)) - (r_X11_ofMove x1 x2 (nI 1) h)) 16 = true) ∧ ((p_X11_ofMove x1 x2 (nI 3) h) ∧ ((((gI h 65 ((((gI h 60 0) - (nI 1)) - (r_X11_ofMove x1 x2 (nI 1) h)).toNatClampNeg)) = x5) → (Q (some (.int (-1))) h)) ∧ (¬ ((gI h 65 ((((gI h 60 0) - (nI 1)) - (r_X11_ofMove x1 x2 (nI 1) h)).toNatClampNeg)) = x5) → (((x4 = 0) → ((((r_X11_ofMove x1 x2 (nI 0) h) = 0) → (CallV (d + 1) MX11_lifts [.ref 59, .int (((gI h 60 0) - (nI 1)) - (r_X11_ofMove x1 x2 (nI 1) h)), .int (((gI h 60 0) - (nI 1)) - (r_X11_ofMove x1 x2 (nI 2) h)), .int x6] h (fun h165 => h165.2.2 = T ∧ (Q (some (.int (gI h 65 ((((gI h 60 0) - (nI 1)) - (r_X11_ofMove x1 x2 (nI 1) h)).toNatClampNeg)))) h165)))) ∧ (¬ ((r_X11_ofMove x1 x2 (nI 0) h) = 0) → ((p_X11_swaps (((gI h 60 0) - (nI 1)) - (r_X11_ofMove x1 x2 (nI 1) h)) (((gI h 60 0) - (nI 1)) - (r_X11_ofMove x1 x2 (nI 2) h)) x6 h) ∧ (Q (some (.int (gI h 65 ((((gI h 60 0) - (nI 1)) - (r_X11_ofMove x1 x2 (nI 1) h)).toNatClampNeg)))) (w_X11_swaps (((gI h 60 0) - (nI 1)) - (r_X11_ofMove x1 x2 (nI 1) h)) (((gI h 60 0) - (nI 1)) - (r_X11_ofMove x1 x2 (nI 2) h)) x6 h)))))) ∧ (¬ (x4 = 0) → ((((r_X11_ofMove x1 x2 (nI 3) h) = (-1)) → ((((r_X11_ofMove x1 x2 (nI 0) h) = 0) → (CallV (d + 1) MX11_lifts [.ref 59, .int (((gI h 60 0) - (nI 1)) - (r_X11_ofMove x1 x2 (nI 1) h)), .int (((gI h 60 0) - (nI 1)) - (r_X11_ofMove x1 x2 (nI 2) h)), .int x6] h (fun h165 => h165.2.2 = T ∧ (Q (some (.int (gI h 65 ((((gI h 60 0) - (nI 1)) - (r_X11_ofMove x1 x2 (nI 1) h)).toNatClampNeg)))) h165)))) ∧ (¬ ((r_X11_ofMove x1 x2 (nI 0) h) = 0) → ((p_X11_swaps (((gI h 60 0) - (nI 1)) - (r_X11_ofMove x1 x2 (nI 1) h)) (((gI h 60 0) - (nI 1)) - (r_X11_ofMove x1 x2 (nI 2) h)) x6 h) ∧ (Q (some (.int (gI h 65 ((((gI h 60 0) - (nI 1)) - (r_X11_ofMove x1 x2 (nI 1) h)).toNatClampNeg)))) (w_X11_swaps (((gI h 60 0) - (nI 1)) - (r_X11_ofMove x1 x2 (nI 1) h)) (((gI h 60 0) - (nI 1)) - (r_X11_ofMove x1 x2 (nI 2) h)) x6 h)))))) ∧ (¬ ((r_X11_ofMove x1 x2 (nI 3) h) = (-1)) → ((inB ((nI 10) + (gI h 65 ((((gI h 60 0) - (nI 1)) - (r_X11_ofMove x1 x2 (nI 1) h)).toNatClampNeg))) 4180 = true) ∧ ((((gI h 60 (((nI 10) + (gI h 65 ((((gI h 60 0) - (nI 1)) - (r_X11_ofMove x1 x2 (nI 1) h)).toNatClampNeg))).toNatClampNeg)) = (r_X11_ofMove x1 x2 (nI 3) h)) → ((((r_X11_ofMove x1 x2 (nI 0) h) = 0) → (CallV (d + 1) MX11_lifts [.ref 59, .int (((gI h 60 0) - (nI 1)) - (r_X11_ofMove x1 x2 (nI 1) h)), .int (((gI h 60 0) - (nI 1)) - (r_X11_ofMove x1 x2 (nI 2) h)), .int x6] h (fun h165 => h165.2.2 = T ∧ (Q (some (.int (gI h 65 ((((gI h 60 0) - (nI 1)) - (r_X11_ofMove x1 x2 (nI 1) h)).toNatClampNeg)))) h165)))) ∧ (¬ ((r_X11_ofMove x1 x2 (nI 0) h) = 0) → ((p_X11_swaps (((gI h 60 0) - (nI 1)) - (r_X11_ofMove x1 x2 (nI 1) h)) (((gI h 60 0) - (nI 1)) - (r_X11_ofMove x1 x2 (nI 2) h)) x6 h) ∧ (Q (some (.int (gI h 65 ((((gI h 60 0) - (nI 1)) - (r_X11_ofMove x1 x2 (nI 1) h)).toNatClampNeg)))) (w_X11_swaps (((gI h 60 0) - (nI 1)) - (r_X11_ofMove x1 x2 (nI 1) h)) (((gI h 60 0) - (nI 1)) - (r_X11_ofMove x1 x2 (nI 2) h)) x6 h)))))) ∧ (¬ ((gI h 60 (((nI 10) + (gI h 65 ((((gI h 60 0) - (nI 1)) - (r_X11_ofMove x1 x2 (nI 1) h)).toNatClampNeg))).toNatClampNeg)) = (r_X11_ofMove x1 x2 (nI 3) h)) → (Q (some (.int (-1))) h))))))))))))))))))) : Call (d + 2) MX11_moves [.ref 59, .int x1, .int x2, .int x3, .int x4, .int x5, .int x6] h Q := by
  show At (d + 2) MX11_moves 0 [.ref 59, .int x1, .int x2, .int x3, .int x4, .int x5, .int x6, un, un, un, un, un] [] h Q
  refine At_aload_n (pc' := 1) iX11_moves_0 rfl rfl ?_
  refine At_iload_n (pc' := 2) iX11_moves_1 rfl rfl ?_
  refine At_iload_n (pc' := 3) iX11_moves_2 rfl rfl ?_
  refine At_iconst (v := nI 0) (pc' := 4) iX11_moves_3 rfl (by decide) ?_
  refine At_virt (pc' := 7) iX11_moves_4 rfl m_11_185 rfl rfl (kdK eT (kd_59 hL)) (Nat.le_of_ble_eq_true rfl) (Nat.le_of_ble_eq_true rfl) ?_
  obtain ⟨hn1, hv⟩ := hv
  refine c_X11_ofMove (h := h) hL eT x1 x2 (nI 0)  hn1 (show At (d + 2) MX11_moves 7 [.ref 59, .int x1, .int x2, .int x3, .int x4, .int x5, .int x6, un, un, un, un, un] [.int (r_X11_ofMove x1 x2 (nI 0) h)] h Q from ?_)
  refine At_istore (L' := [.ref 59, .int x1, .int x2, .int x3, .int x4, .int x5, .int x6, .int (r_X11_ofMove x1 x2 (nI 0) h), un, un, un, un]) (pc' := 9) iX11_moves_7 rfl (Nat.le_of_ble_eq_true rfl) rfl ?_
  refine At_aload_n (pc' := 10) iX11_moves_9 rfl rfl ?_
  refine At_iload_n (pc' := 11) iX11_moves_10 rfl rfl ?_
  refine At_iload_n (pc' := 12) iX11_moves_11 rfl rfl ?_
  refine At_iconst (v := nI 1) (pc' := 13) iX11_moves_12 rfl (by decide) ?_
  refine At_virt (pc' := 16) iX11_moves_13 rfl m_11_185 rfl rfl (kdK eT (kd_59 hL)) (Nat.le_of_ble_eq_true rfl) (Nat.le_of_ble_eq_true rfl) ?_
  obtain ⟨hn2, hv⟩ := hv
  refine c_X11_ofMove (h := h) hL eT x1 x2 (nI 1)  hn2 (show At (d + 2) MX11_moves 16 [.ref 59, .int x1, .int x2, .int x3, .int x4, .int x5, .int x6, .int (r_X11_ofMove x1 x2 (nI 0) h), un, un, un, un] [.int (r_X11_ofMove x1 x2 (nI 1) h)] h Q from ?_)
  refine At_istore (L' := [.ref 59, .int x1, .int x2, .int x3, .int x4, .int x5, .int x6, .int (r_X11_ofMove x1 x2 (nI 0) h), .int (r_X11_ofMove x1 x2 (nI 1) h), un, un, un]) (pc' := 18) iX11_moves_16 rfl (Nat.le_of_ble_eq_true rfl) rfl ?_
  refine At_iload (pc' := 20) iX11_moves_18 rfl rfl ?_
  refine At_iconst (v := nI 2) (pc' := 21) iX11_moves_20 rfl (by decide) ?_
  refine At_icmp_ne (t := 61) (pc' := 24) iX11_moves_21 (by decide) rfl (fun c21 => ?_) (fun c21 => ?_)
  · have hv := hv.2 c21
    refine At_aload_n (pc' := 62) iX11_moves_61 rfl rfl ?_
    refine At_iload_n (pc' := 63) iX11_moves_62 rfl rfl ?_
    refine At_iload_n (pc' := 64) iX11_moves_63 rfl rfl ?_
    refine At_iconst (v := nI 2) (pc' := 65) iX11_moves_64 rfl (by decide) ?_
    refine At_virt (pc' := 68) iX11_moves_65 rfl m_11_185 rfl rfl (kdK eT (kd_59 hL)) (Nat.le_of_ble_eq_true rfl) (Nat.le_of_ble_eq_true rfl) ?_
    obtain ⟨hn3, hv⟩ := hv
    refine c_X11_ofMove (h := h) hL eT x1 x2 (nI 2)  hn3 (show At (d + 2) MX11_moves 68 [.ref 59, .int x1, .int x2, .int x3, .int x4, .int x5, .int x6, .int (r_X11_ofMove x1 x2 (nI 0) h), .int (r_X11_ofMove x1 x2 (nI 1) h), un, un, un] [.int (r_X11_ofMove x1 x2 (nI 2) h)] h Q from ?_)
    refine At_istore (L' := [.ref 59, .int x1, .int x2, .int x3, .int x4, .int x5, .int x6, .int (r_X11_ofMove x1 x2 (nI 0) h), .int (r_X11_ofMove x1 x2 (nI 1) h), .int (r_X11_ofMove x1 x2 (nI 2) h), un, un]) (pc' := 70) iX11_moves_68 rfl (Nat.le_of_ble_eq_true rfl) rfl ?_
    refine At_iload_n (pc' := 71) iX11_moves_70 rfl rfl ?_
    refine At_if_eq (t := 100) (pc' := 74) iX11_moves_71 (by decide) rfl (fun c71 => ?_) (fun c71 => ?_)
    · have hv := hv.1 c71
      refine At_aload_n (pc' := 101) iX11_moves_100 rfl rfl ?_
      refine At_getR (pc' := 104) iX11_moves_101 rfl f_11_29 (kdK eT (kd_59 hL)) (by decide) (rfH eT (rf_59_17 hL)) ?_
      refine At_iload (pc' := 106) iX11_moves_104 rfl rfl ?_
      obtain ⟨hn4, hv⟩ := hv
      refine At_iald (pc' := 107) iX11_moves_106 rfl (kdH eT (kd_65 hL)) hn4 (show At (d + 2) MX11_moves 107 [.ref 59, .int x1, .int x2, .int x3, .int x4, .int x5, .int x6, .int (r_X11_ofMove x1 x2 (nI 0) h), .int (r_X11_ofMove x1 x2 (nI 1) h), .int (r_X11_ofMove x1 x2 (nI 2) h), un, un] [.int (gI h 65 ((r_X11_ofMove x1 x2 (nI 1) h).toNatClampNeg))] h Q from ?_)
      refine At_istore (L' := [.ref 59, .int x1, .int x2, .int x3, .int x4, .int x5, .int x6, .int (r_X11_ofMove x1 x2 (nI 0) h), .int (r_X11_ofMove x1 x2 (nI 1) h), .int (r_X11_ofMove x1 x2 (nI 2) h), .int (gI h 65 ((r_X11_ofMove x1 x2 (nI 1) h).toNatClampNeg)), un]) (pc' := 109) iX11_moves_107 rfl (Nat.le_of_ble_eq_true rfl) rfl ?_
      refine At_aload_n (pc' := 110) iX11_moves_109 rfl rfl ?_
      refine At_iload_n (pc' := 111) iX11_moves_110 rfl rfl ?_
      refine At_iload_n (pc' := 112) iX11_moves_111 rfl rfl ?_
      refine At_iconst (v := nI 3) (pc' := 113) iX11_moves_112 rfl (by decide) ?_
      refine At_virt (pc' := 116) iX11_moves_113 rfl m_11_185 rfl rfl (kdK eT (kd_59 hL)) (Nat.le_of_ble_eq_true rfl) (Nat.le_of_ble_eq_true rfl) ?_
      obtain ⟨hn5, hv⟩ := hv
      refine c_X11_ofMove (h := h) hL eT x1 x2 (nI 3)  hn5 (show At (d + 2) MX11_moves 116 [.ref 59, .int x1, .int x2, .int x3, .int x4, .int x5, .int x6, .int (r_X11_ofMove x1 x2 (nI 0) h), .int (r_X11_ofMove x1 x2 (nI 1) h), .int (r_X11_ofMove x1 x2 (nI 2) h), .int (gI h 65 ((r_X11_ofMove x1 x2 (nI 1) h).toNatClampNeg)), un] [.int (r_X11_ofMove x1 x2 (nI 3) h)] h Q from ?_)
      refine At_istore (L' := [.ref 59, .int x1, .int x2, .int x3, .int x4, .int x5, .int x6, .int (r_X11_ofMove x1 x2 (nI 0) h), .int (r_X11_ofMove x1 x2 (nI 1) h), .int (r_X11_ofMove x1 x2 (nI 2) h), .int (gI h 65 ((r_X11_ofMove x1 x2 (nI 1) h).toNatClampNeg)), .int (r_X11_ofMove x1 x2 (nI 3) h)]) (pc' := 118) iX11_moves_116 rfl (Nat.le_of_ble_eq_true rfl) rfl ?_
      refine At_iload (pc' := 120) iX11_moves_118 rfl rfl ?_
      refine At_iload (pc' := 122) iX11_moves_120 rfl rfl ?_
      refine At_icmp_eq (t := 151) (pc' := 125) iX11_moves_122 (by decide) rfl (fun c122 => ?_) (fun c122 => ?_)
      · have hv := hv.1 c122
        refine At_iconst (v := (-1)) (pc' := 152) iX11_moves_151 rfl (by decide) ?_
        exact At_retI iX11_moves_152 rfl hv
      · have hv := hv.2 c122
        refine At_iload (pc' := 127) iX11_moves_125 rfl rfl ?_
        refine At_if_eq (t := 153) (pc' := 130) iX11_moves_127 (by decide) rfl (fun c127 => ?_) (fun c127 => ?_)
        · have hv := hv.1 c127
          refine At_iload (pc' := 155) iX11_moves_153 rfl rfl ?_
          refine At_if_ne (t := 171) (pc' := 158) iX11_moves_155 (by decide) rfl (fun c155 => ?_) (fun c155 => ?_)
          · have hv := hv.2 c155
            refine At_aload_n (pc' := 172) iX11_moves_171 rfl rfl ?_
            refine At_iload (pc' := 174) iX11_moves_172 rfl rfl ?_
            refine At_iload (pc' := 176) iX11_moves_174 rfl rfl ?_
            refine At_iload (pc' := 178) iX11_moves_176 rfl rfl ?_
            refine At_virt (pc' := 181) iX11_moves_178 rfl m_11_195 rfl rfl (kdK eT (kd_59 hL)) (Nat.le_of_ble_eq_true rfl) (Nat.le_of_ble_eq_true rfl) ?_
            obtain ⟨hn6, hv⟩ := hv
            refine c_X11_swaps (h := h) hL eT (r_X11_ofMove x1 x2 (nI 1) h) (r_X11_ofMove x1 x2 (nI 2) h) x6  hn6 (show At (d + 2) MX11_moves 181 [.ref 59, .int x1, .int x2, .int x3, .int x4, .int x5, .int x6, .int (r_X11_ofMove x1 x2 (nI 0) h), .int (r_X11_ofMove x1 x2 (nI 1) h), .int (r_X11_ofMove x1 x2 (nI 2) h), .int (gI h 65 ((r_X11_ofMove x1 x2 (nI 1) h).toNatClampNeg)), .int (r_X11_ofMove x1 x2 (nI 3) h)] [] (w_X11_swaps (r_X11_ofMove x1 x2 (nI 1) h) (r_X11_ofMove x1 x2 (nI 2) h) x6 h) Q from ?_)
            refine At_iload (pc' := 183) iX11_moves_181 rfl rfl ?_
            exact At_retI iX11_moves_183 rfl hv
          · have hv := hv.1 c155
            refine At_aload_n (pc' := 159) iX11_moves_158 rfl rfl ?_
            refine At_iload (pc' := 161) iX11_moves_159 rfl rfl ?_
            refine At_iload (pc' := 163) iX11_moves_161 rfl rfl ?_
            refine At_iload (pc' := 165) iX11_moves_163 rfl rfl ?_
            refine At_virt (pc' := 168) iX11_moves_165 rfl m_11_192 rfl rfl (kdK eT (kd_59 hL)) (Nat.le_of_ble_eq_true rfl) (Nat.le_of_ble_eq_true rfl) ?_
            refine At.mono (show CallV (d + 1) MX11_lifts [.ref 59, .int (r_X11_ofMove x1 x2 (nI 1) h), .int (r_X11_ofMove x1 x2 (nI 2) h), .int x6] h _ from hv) ?_
            rintro _ h165 ⟨rfl, eT165, hv⟩
            show At (d + 2) MX11_moves 168 [.ref 59, .int x1, .int x2, .int x3, .int x4, .int x5, .int x6, .int (r_X11_ofMove x1 x2 (nI 0) h), .int (r_X11_ofMove x1 x2 (nI 1) h), .int (r_X11_ofMove x1 x2 (nI 2) h), .int (gI h 65 ((r_X11_ofMove x1 x2 (nI 1) h).toNatClampNeg)), .int (r_X11_ofMove x1 x2 (nI 3) h)] [] h165 Q
            refine At_goto (t := 181) iX11_moves_168 (by decide) ?_
            refine At_iload (pc' := 183) iX11_moves_181 rfl rfl ?_
            exact At_retI iX11_moves_183 rfl hv
        · have hv := hv.2 c127
          refine At_iload (pc' := 132) iX11_moves_130 rfl rfl ?_
          refine At_iconst (v := (-1)) (pc' := 133) iX11_moves_132 rfl (by decide) ?_
          refine At_icmp_eq (t := 153) (pc' := 136) iX11_moves_133 (by decide) rfl (fun c133 => ?_) (fun c133 => ?_)
          · have hv := hv.1 c133
            refine At_iload (pc' := 155) iX11_moves_153 rfl rfl ?_
            refine At_if_ne (t := 171) (pc' := 158) iX11_moves_155 (by decide) rfl (fun c155 => ?_) (fun c155 => ?_)
            · have hv := hv.2 c155
              refine At_aload_n (pc' := 172) iX11_moves_171 rfl rfl ?_
              refine At_iload (pc' := 174) iX11_moves_172 rfl rfl ?_
              refine At_iload (pc' := 176) iX11_moves_174 rfl rfl ?_
              refine At_iload (pc' := 178) iX11_moves_176 rfl rfl ?_
              refine At_virt (pc' := 181) iX11_moves_178 rfl m_11_195 rfl rfl (kdK eT (kd_59 hL)) (Nat.le_of_ble_eq_true rfl) (Nat.le_of_ble_eq_true rfl) ?_
              obtain ⟨hn7, hv⟩ := hv
              refine c_X11_swaps (h := h) hL eT (r_X11_ofMove x1 x2 (nI 1) h) (r_X11_ofMove x1 x2 (nI 2) h) x6  hn7 (show At (d + 2) MX11_moves 181 [.ref 59, .int x1, .int x2, .int x3, .int x4, .int x5, .int x6, .int (r_X11_ofMove x1 x2 (nI 0) h), .int (r_X11_ofMove x1 x2 (nI 1) h), .int (r_X11_ofMove x1 x2 (nI 2) h), .int (gI h 65 ((r_X11_ofMove x1 x2 (nI 1) h).toNatClampNeg)), .int (r_X11_ofMove x1 x2 (nI 3) h)] [] (w_X11_swaps (r_X11_ofMove x1 x2 (nI 1) h) (r_X11_ofMove x1 x2 (nI 2) h) x6 h) Q from ?_)
              refine At_iload (pc' := 183) iX11_moves_181 rfl rfl ?_
              exact At_retI iX11_moves_183 rfl hv
            · have hv := hv.1 c155
              refine At_aload_n (pc' := 159) iX11_moves_158 rfl rfl ?_
              refine At_iload (pc' := 161) iX11_moves_159 rfl rfl ?_
              refine At_iload (pc' := 163) iX11_moves_161 rfl rfl ?_
              refine At_iload (pc' := 165) iX11_moves_163 rfl rfl ?_
              refine At_virt (pc' := 168) iX11_moves_165 rfl m_11_192 rfl rfl (kdK eT (kd_59 hL)) (Nat.le_of_ble_eq_true rfl) (Nat.le_of_ble_eq_true rfl) ?_
              refine At.mono (show CallV (d + 1) MX11_lifts [.ref 59, .int (r_X11_ofMove x1 x2 (nI 1) h), .int (r_X11_ofMove x1 x2 (nI 2) h), .int x6] h _ from hv) ?_
              rintro _ h165 ⟨rfl, eT165, hv⟩
              show At (d + 2) MX11_moves 168 [.ref 59, .int x1, .int x2, .int x3, .int x4, .int x5, .int x6, .int (r_X11_ofMove x1 x2 (nI 0) h), .int (r_X11_ofMove x1 x2 (nI 1) h), .int (r_X11_ofMove x1 x2 (nI 2) h), .int (gI h 65 ((r_X11_ofMove x1 x2 (nI 1) h).toNatClampNeg)), .int (r_X11_ofMove x1 x2 (nI 3) h)] [] h165 Q
              refine At_goto (t := 181) iX11_moves_168 (by decide) ?_
              refine At_iload (pc' := 183) iX11_moves_181 rfl rfl ?_
              exact At_retI iX11_moves_183 rfl hv
          · have hv := hv.2 c133
            refine At_aload_n (pc' := 137) iX11_moves_136 rfl rfl ?_
            refine At_getR (pc' := 140) iX11_moves_137 rfl f_11_7 (kdK eT (kd_59 hL)) (by decide) (rfH eT (rf_59_0 hL)) ?_
            refine At_bipush (v := nI 10) (pc' := 142) iX11_moves_140 rfl (by decide) ?_
            refine At_iload (pc' := 144) iX11_moves_142 rfl rfl ?_
            refine At_iadd (pc' := 145) iX11_moves_144 rfl ?_
            obtain ⟨hn8, hv⟩ := hv
            refine At_iald (pc' := 146) iX11_moves_145 rfl (kdH eT (kd_60 hL)) hn8 (show At (d + 2) MX11_moves 146 [.ref 59, .int x1, .int x2, .int x3, .int x4, .int x5, .int x6, .int (r_X11_ofMove x1 x2 (nI 0) h), .int (r_X11_ofMove x1 x2 (nI 1) h), .int (r_X11_ofMove x1 x2 (nI 2) h), .int (gI h 65 ((r_X11_ofMove x1 x2 (nI 1) h).toNatClampNeg)), .int (r_X11_ofMove x1 x2 (nI 3) h)] [.int (gI h 60 (((nI 10) + (gI h 65 ((r_X11_ofMove x1 x2 (nI 1) h).toNatClampNeg))).toNatClampNeg))] h Q from ?_)
            refine At_iload (pc' := 148) iX11_moves_146 rfl rfl ?_
            refine At_icmp_eq (t := 153) (pc' := 151) iX11_moves_148 (by decide) rfl (fun c148 => ?_) (fun c148 => ?_)
            · have hv := hv.1 c148
              refine At_iload (pc' := 155) iX11_moves_153 rfl rfl ?_
              refine At_if_ne (t := 171) (pc' := 158) iX11_moves_155 (by decide) rfl (fun c155 => ?_) (fun c155 => ?_)
              · have hv := hv.2 c155
                refine At_aload_n (pc' := 172) iX11_moves_171 rfl rfl ?_
                refine At_iload (pc' := 174) iX11_moves_172 rfl rfl ?_
                refine At_iload (pc' := 176) iX11_moves_174 rfl rfl ?_
                refine At_iload (pc' := 178) iX11_moves_176 rfl rfl ?_
                refine At_virt (pc' := 181) iX11_moves_178 rfl m_11_195 rfl rfl (kdK eT (kd_59 hL)) (Nat.le_of_ble_eq_true rfl) (Nat.le_of_ble_eq_true rfl) ?_
                obtain ⟨hn9, hv⟩ := hv
                refine c_X11_swaps (h := h) hL eT (r_X11_ofMove x1 x2 (nI 1) h) (r_X11_ofMove x1 x2 (nI 2) h) x6  hn9 (show At (d + 2) MX11_moves 181 [.ref 59, .int x1, .int x2, .int x3, .int x4, .int x5, .int x6, .int (r_X11_ofMove x1 x2 (nI 0) h), .int (r_X11_ofMove x1 x2 (nI 1) h), .int (r_X11_ofMove x1 x2 (nI 2) h), .int (gI h 65 ((r_X11_ofMove x1 x2 (nI 1) h).toNatClampNeg)), .int (r_X11_ofMove x1 x2 (nI 3) h)] [] (w_X11_swaps (r_X11_ofMove x1 x2 (nI 1) h) (r_X11_ofMove x1 x2 (nI 2) h) x6 h) Q from ?_)
                refine At_iload (pc' := 183) iX11_moves_181 rfl rfl ?_
                exact At_retI iX11_moves_183 rfl hv
              · have hv := hv.1 c155
                refine At_aload_n (pc' := 159) iX11_moves_158 rfl rfl ?_
                refine At_iload (pc' := 161) iX11_moves_159 rfl rfl ?_
                refine At_iload (pc' := 163) iX11_moves_161 rfl rfl ?_
                refine At_iload (pc' := 165) iX11_moves_163 rfl rfl ?_
                refine At_virt (pc' := 168) iX11_moves_165 rfl m_11_192 rfl rfl (kdK eT (kd_59 hL)) (Nat.le_of_ble_eq_true rfl) (Nat.le_of_ble_eq_true rfl) ?_
                refine At.mono (show CallV (d + 1) MX11_lifts [.ref 59, .int (r_X11_ofMove x1 x2 (nI 1) h), .int (r_X11_ofMove x1 x2 (nI 2) h), .int x6] h _ from hv) ?_
                rintro _ h165 ⟨rfl, eT165, hv⟩
                show At (d + 2) MX11_moves 168 [.ref 59, .int x1, .int x2, .int x3, .int x4, .int x5, .int x6, .int (r_X11_ofMove x1 x2 (nI 0) h), .int (r_X11_ofMove x1 x2 (nI 1) h), .int (r_X11_ofMove x1 x2 (nI 2) h), .int (gI h 65 ((r_X11_ofMove x1 x2 (nI 1) h).toNatClampNeg)), .int (r_X11_ofMove x1 x2 (nI 3) h)] [] h165 Q
                refine At_goto (t := 181) iX11_moves_168 (by decide) ?_
                refine At_iload (pc' := 183) iX11_moves_181 rfl rfl ?_
                exact At_retI iX11_moves_183 rfl hv
            · have hv := hv.2 c148
              refine At_iconst (v := (-1)) (pc' := 152) iX11_moves_151 rfl (by decide) ?_
              exact At_retI iX11_moves_152 rfl hv
    · have hv := hv.2 c71
      refine At_aload_n (pc' := 75) iX11_moves_74 rfl rfl ?_
      refine At_getR (pc' := 78) iX11_moves_75 rfl f_11_7 (kdK eT (kd_59 hL)) (by decide) (rfH eT (rf_59_0 hL)) ?_
      refine At_iconst (v := nI 0) (pc' := 79) iX11_moves_78 rfl (by decide) ?_
      refine At_iald (pc' := 80) iX11_moves_79 rfl (kdH eT (kd_60 hL)) (by decide) (show At (d + 2) MX11_moves 80 [.ref 59, .int x1, .int x2, .int x3, .int x4, .int x5, .int x6, .int (r_X11_ofMove x1 x2 (nI 0) h), .int (r_X11_ofMove x1 x2 (nI 1) h), .int (r_X11_ofMove x1 x2 (nI 2) h), un, un] [.int (gI h 60 0)] h Q from ?_)
      refine At_iconst (v := nI 1) (pc' := 81) iX11_moves_80 rfl (by decide) ?_
      refine At_isub (pc' := 82) iX11_moves_81 rfl ?_
      refine At_iload (pc' := 84) iX11_moves_82 rfl rfl ?_
      refine At_isub (pc' := 85) iX11_moves_84 rfl ?_
      refine At_istore (L' := [.ref 59, .int x1, .int x2, .int x3, .int x4, .int x5, .int x6, .int (r_X11_ofMove x1 x2 (nI 0) h), .int (((gI h 60 0) - (nI 1)) - (r_X11_ofMove x1 x2 (nI 1) h)), .int (r_X11_ofMove x1 x2 (nI 2) h), un, un]) (pc' := 87) iX11_moves_85 rfl (Nat.le_of_ble_eq_true rfl) rfl ?_
      refine At_aload_n (pc' := 88) iX11_moves_87 rfl rfl ?_
      refine At_getR (pc' := 91) iX11_moves_88 rfl f_11_7 (kdK eT (kd_59 hL)) (by decide) (rfH eT (rf_59_0 hL)) ?_
      refine At_iconst (v := nI 0) (pc' := 92) iX11_moves_91 rfl (by decide) ?_
      refine At_iald (pc' := 93) iX11_moves_92 rfl (kdH eT (kd_60 hL)) (by decide) (show At (d + 2) MX11_moves 93 [.ref 59, .int x1, .int x2, .int x3, .int x4, .int x5, .int x6, .int (r_X11_ofMove x1 x2 (nI 0) h), .int (((gI h 60 0) - (nI 1)) - (r_X11_ofMove x1 x2 (nI 1) h)), .int (r_X11_ofMove x1 x2 (nI 2) h), un, un] [.int (gI h 60 0)] h Q from ?_)
      refine At_iconst (v := nI 1) (pc' := 94) iX11_moves_93 rfl (by decide) ?_
      refine At_isub (pc' := 95) iX11_moves_94 rfl ?_
      refine At_iload (pc' := 97) iX11_moves_95 rfl rfl ?_
      refine At_isub (pc' := 98) iX11_moves_97 rfl ?_
      refine At_istore (L' := [.ref 59, .int x1, .int x2, .int x3, .int x4, .int x5, .int x6, .int (r_X11_ofMove x1 x2 (nI 0) h), .int (((gI h 60 0) - (nI 1)) - (r_X11_ofMove x1 x2 (nI 1) h)), .int (((gI h 60 0) - (nI 1)) - (r_X11_ofMove x1 x2 (nI 2) h)), un, un]) (pc' := 100) iX11_moves_98 rfl (Nat.le_of_ble_eq_true rfl) rfl ?_
      refine At_aload_n (pc' := 101) iX11_moves_100 rfl rfl ?_
      refine At_getR (pc' := 104) iX11_moves_101 rfl f_11_29 (kdK eT (kd_59 hL)) (by decide) (rfH eT (rf_59_17 hL)) ?_
      refine At_iload (pc' := 106) iX11_moves_104 rfl rfl ?_
      obtain ⟨hn10, hv⟩ := hv
      refine At_iald (pc' := 107) iX11_moves_106 rfl (kdH eT (kd_65 hL)) hn10 (show At (d + 2) MX11_moves 107 [.ref 59, .int x1, .int x2, .int x3, .int x4, .int x5, .int x6, .int (r_X11_ofMove x1 x2 (nI 0) h), .int (((gI h 60 0) - (nI 1)) - (r_X11_ofMove x1 x2 (nI 1) h)), .int (((gI h 60 0) - (nI 1)) - (r_X11_ofMove x1 x2 (nI 2) h)), un, un] [.int (gI h 65 ((((gI h 60 0) - (nI 1)) - (r_X11_ofMove x1 x2 (nI 1) h)).toNatClampNeg))] h Q from ?_)
      refine At_istore (L' := [.ref 59, .int x1, .int x2, .int x3, .int x4, .int x5, .int x6, .int (r_X11_ofMove x1 x2 (nI 0) h), .int (((gI h 60 0) - (nI 1)) - (r_X11_ofMove x1 x2 (nI 1) h)), .int (((gI h 60 0) - (nI 1)) - (r_X11_ofMove x1 x2 (nI 2) h)), .int (gI h 65 ((((gI h 60 0) - (nI 1)) - (r_X11_ofMove x1 x2 (nI 1) h)).toNatClampNeg)), un]) (pc' := 109) iX11_moves_107 rfl (Nat.le_of_ble_eq_true rfl) rfl ?_
      refine At_aload_n (pc' := 110) iX11_moves_109 rfl rfl ?_
      refine At_iload_n (pc' := 111) iX11_moves_110 rfl rfl ?_
      refine At_iload_n (pc' := 112) iX11_moves_111 rfl rfl ?_
      refine At_iconst (v := nI 3) (pc' := 113) iX11_moves_112 rfl (by decide) ?_
      refine At_virt (pc' := 116) iX11_moves_113 rfl m_11_185 rfl rfl (kdK eT (kd_59 hL)) (Nat.le_of_ble_eq_true rfl) (Nat.le_of_ble_eq_true rfl) ?_
      obtain ⟨hn11, hv⟩ := hv
      refine c_X11_ofMove (h := h) hL eT x1 x2 (nI 3)  hn11 (show At (d + 2) MX11_moves 116 [.ref 59, .int x1, .int x2, .int x3, .int x4, .int x5, .int x6, .int (r_X11_ofMove x1 x2 (nI 0) h), .int (((gI h 60 0) - (nI 1)) - (r_X11_ofMove x1 x2 (nI 1) h)), .int (((gI h 60 0) - (nI 1)) - (r_X11_ofMove x1 x2 (nI 2) h)), .int (gI h 65 ((((gI h 60 0) - (nI 1)) - (r_X11_ofMove x1 x2 (nI 1) h)).toNatClampNeg)), un] [.int (r_X11_ofMove x1 x2 (nI 3) h)] h Q from ?_)
      refine At_istore (L' := [.ref 59, .int x1, .int x2, .int x3, .int x4, .int x5, .int x6, .int (r_X11_ofMove x1 x2 (nI 0) h), .int (((gI h 60 0) - (nI 1)) - (r_X11_ofMove x1 x2 (nI 1) h)), .int (((gI h 60 0) - (nI 1)) - (r_X11_ofMove x1 x2 (nI 2) h)), .int (gI h 65 ((((gI h 60 0) - (nI 1)) - (r_X11_ofMove x1 x2 (nI 1) h)).toNatClampNeg)), .int (r_X11_ofMove x1 x2 (nI 3) h)]) (pc' := 118) iX11_moves_116 rfl (Nat.le_of_ble_eq_true rfl) rfl ?_
      refine At_iload (pc' := 120) iX11_moves_118 rfl rfl ?_
      refine At_iload (pc' := 122) iX11_moves_120 rfl rfl ?_
      refine At_icmp_eq (t := 151) (pc' := 125) iX11_moves_122 (by decide) rfl (fun c122 => ?_) (fun c122 => ?_)
      · have hv := hv.1 c122
        refine At_iconst (v := (-1)) (pc' := 152) iX11_moves_151 rfl (by decide) ?_
        exact At_retI iX11_moves_152 rfl hv
      · have hv := hv.2 c122
        refine At_iload (pc' := 127) iX11_moves_125 rfl rfl ?_
        refine At_if_eq (t := 153) (pc' := 130) iX11_moves_127 (by decide) rfl (fun c127 => ?_) (fun c127 => ?_)
        · have hv := hv.1 c127
          refine At_iload (pc' := 155) iX11_moves_153 rfl rfl ?_
          refine At_if_ne (t := 171) (pc' := 158) iX11_moves_155 (by decide) rfl (fun c155 => ?_) (fun c155 => ?_)
          · have hv := hv.2 c155
            refine At_aload_n (pc' := 172) iX11_moves_171 rfl rfl ?_
            refine At_iload (pc' := 174) iX11_moves_172 rfl rfl ?_
            refine At_iload (pc' := 176) iX11_moves_174 rfl rfl ?_
            refine At_iload (pc' := 178) iX11_moves_176 rfl rfl ?_
            refine At_virt (pc' := 181) iX11_moves_178 rfl m_11_195 rfl rfl (kdK eT (kd_59 hL)) (Nat.le_of_ble_eq_true rfl) (Nat.le_of_ble_eq_true rfl) ?_
            obtain ⟨hn12, hv⟩ := hv
            refine c_X11_swaps (h := h) hL eT (((gI h 60 0) - (nI 1)) - (r_X11_ofMove x1 x2 (nI 1) h)) (((gI h 60 0) - (nI 1)) - (r_X11_ofMove x1 x2 (nI 2) h)) x6  hn12 (show At (d + 2) MX11_moves 181 [.ref 59, .int x1, .int x2, .int x3, .int x4, .int x5, .int x6, .int (r_X11_ofMove x1 x2 (nI 0) h), .int (((gI h 60 0) - (nI 1)) - (r_X11_ofMove x1 x2 (nI 1) h)), .int (((gI h 60 0) - (nI 1)) - (r_X11_ofMove x1 x2 (nI 2) h)), .int (gI h 65 ((((gI h 60 0) - (nI 1)) - (r_X11_ofMove x1 x2 (nI 1) h)).toNatClampNeg)), .int (r_X11_ofMove x1 x2 (nI 3) h)] [] (w_X11_swaps (((gI h 60 0) - (nI 1)) - (r_X11_ofMove x1 x2 (nI 1) h)) (((gI h 60 0) - (nI 1)) - (r_X11_ofMove x1 x2 (nI 2) h)) x6 h) Q from ?_)
            refine At_iload (pc' := 183) iX11_moves_181 rfl rfl ?_
            exact At_retI iX11_moves_183 rfl hv
          · have hv := hv.1 c155
            refine At_aload_n (pc' := 159) iX11_moves_158 rfl rfl ?_
            refine At_iload (pc' := 161) iX11_moves_159 rfl rfl ?_
            refine At_iload (pc' := 163) iX11_moves_161 rfl rfl ?_
            refine At_iload (pc' := 165) iX11_moves_163 rfl rfl ?_
            refine At_virt (pc' := 168) iX11_moves_165 rfl m_11_192 rfl rfl (kdK eT (kd_59 hL)) (Nat.le_of_ble_eq_true rfl) (Nat.le_of_ble_eq_true rfl) ?_
            refine At.mono (show CallV (d + 1) MX11_lifts [.ref 59, .int (((gI h 60 0) - (nI 1)) - (r_X11_ofMove x1 x2 (nI 1) h)), .int (((gI h 60 0) - (nI 1)) - (r_X11_ofMove x1 x2 (nI 2) h)), .int x6] h _ from hv) ?_
            rintro _ h165 ⟨rfl, eT165, hv⟩
            show At (d + 2) MX11_moves 168 [.ref 59, .int x1, .int x2, .int x3, .int x4, .int x5, .int x6, .int (r_X11_ofMove x1 x2 (nI 0) h), .int (((gI h 60 0) - (nI 1)) - (r_X11_ofMove x1 x2 (nI 1) h)), .int (((gI h 60 0) - (nI 1)) - (r_X11_ofMove x1 x2 (nI 2) h)), .int (gI h 65 ((((gI h 60 0) - (nI 1)) - (r_X11_ofMove x1 x2 (nI 1) h)).toNatClampNeg)), .int (r_X11_ofMove x1 x2 (nI 3) h)] [] h165 Q
            refine At_goto (t := 181) iX11_moves_168 (by decide) ?_
            refine At_iload (pc' := 183) iX11_moves_181 rfl rfl ?_
            exact At_retI iX11_moves_183 rfl hv
        · have hv := hv.2 c127
          refine At_iload (pc' := 132) iX11_moves_130 rfl rfl ?_
          refine At_iconst (v := (-1)) (pc' := 133) iX11_moves_132 rfl (by decide) ?_
          refine At_icmp_eq (t := 153) (pc' := 136) iX11_moves_133 (by decide) rfl (fun c133 => ?_) (fun c133 => ?_)
          · have hv := hv.1 c133
            refine At_iload (pc' := 155) iX11_moves_153 rfl rfl ?_
            refine At_if_ne (t := 171) (pc' := 158) iX11_moves_155 (by decide) rfl (fun c155 => ?_) (fun c155 => ?_)
            · have hv := hv.2 c155
              refine At_aload_n (pc' := 172) iX11_moves_171 rfl rfl ?_
              refine At_iload (pc' := 174) iX11_moves_172 rfl rfl ?_
              refine At_iload (pc' := 176) iX11_moves_174 rfl rfl ?_
              refine At_iload (pc' := 178) iX11_moves_176 rfl rfl ?_
              refine At_virt (pc' := 181) iX11_moves_178 rfl m_11_195 rfl rfl (kdK eT (kd_59 hL)) (Nat.le_of_ble_eq_true rfl) (Nat.le_of_ble_eq_true rfl) ?_
              obtain ⟨hn13, hv⟩ := hv
              refine c_X11_swaps (h := h) hL eT (((gI h 60 0) - (nI 1)) - (r_X11_ofMove x1 x2 (nI 1) h)) (((gI h 60 0) - (nI 1)) - (r_X11_ofMove x1 x2 (nI 2) h)) x6  hn13 (show At (d + 2) MX11_moves 181 [.ref 59, .int x1, .int x2, .int x3, .int x4, .int x5, .int x6, .int (r_X11_ofMove x1 x2 (nI 0) h), .int (((gI h 60 0) - (nI 1)) - (r_X11_ofMove x1 x2 (nI 1) h)), .int (((gI h 60 0) - (nI 1)) - (r_X11_ofMove x1 x2 (nI 2) h)), .int (gI h 65 ((((gI h 60 0) - (nI 1)) - (r_X11_ofMove x1 x2 (nI 1) h)).toNatClampNeg)), .int (r_X11_ofMove x1 x2 (nI 3) h)] [] (w_X11_swaps (((gI h 60 0) - (nI 1)) - (r_X11_ofMove x1 x2 (nI 1) h)) (((gI h 60 0) - (nI 1)) - (r_X11_ofMove x1 x2 (nI 2) h)) x6 h) Q from ?_)
              refine At_iload (pc' := 183) iX11_moves_181 rfl rfl ?_
              exact At_retI iX11_moves_183 rfl hv
            · have hv := hv.1 c155
              refine At_aload_n (pc' := 159) iX11_moves_158 rfl rfl ?_
              refine At_iload (pc' := 161) iX11_moves_159 rfl rfl ?_
              refine At_iload (pc' := 163) iX11_moves_161 rfl rfl ?_
              refine At_iload (pc' := 165) iX11_moves_163 rfl rfl ?_
              refine At_virt (pc' := 168) iX11_moves_165 rfl m_11_192 rfl rfl (kdK eT (kd_59 hL)) (Nat.le_of_ble_eq_true rfl) (Nat.le_of_ble_eq_true rfl) ?_
              refine At.mono (show CallV (d + 1) MX11_lifts [.ref 59, .int (((gI h 60 0) - (nI 1)) - (r_X11_ofMove x1 x2 (nI 1) h)), .int (((gI h 60 0) - (nI 1)) - (r_X11_ofMove x1 x2 (nI 2) h)), .int x6] h _ from hv) ?_
              rintro _ h165 ⟨rfl, eT165, hv⟩
              show At (d + 2) MX11_moves 168 [.ref 59, .int x1, .int x2, .int x3, .int x4, .int x5, .int x6, .int (r_X11_ofMove x1 x2 (nI 0) h), .int (((gI h 60 0) - (nI 1)) - (r_X11_ofMove x1 x2 (nI 1) h)), .int (((gI h 60 0) - (nI 1)) - (r_X11_ofMove x1 x2 (nI 2) h)), .int (gI h 65 ((((gI h 60 0) - (nI 1)) - (r_X11_ofMove x1 x2 (nI 1) h)).toNatClampNeg)), .int (r_X11_ofMove x1 x2 (nI 3) h)] [] h165 Q
              refine At_goto (t := 181) iX11_moves_168 (by decide) ?_
              refine At_iload (pc' := 183) iX11_moves_181 rfl rfl ?_
              exact At_retI iX11_moves_183 rfl hv
          · have hv := hv.2 c133
            refine At_aload_n (pc' := 137) iX11_moves_136 rfl rfl ?_
            refine At_getR (pc' := 140) iX11_moves_137 rfl f_11_7 (kdK eT (kd_59 hL)) (by decide) (rfH eT (rf_59_0 hL)) ?_
            refine At_bipush (v := nI 10) (pc' := 142) iX11_moves_140 rfl (by decide) ?_
            refine At_iload (pc' := 144) iX11_moves_142 rfl rfl ?_
            refine At_iadd (pc' := 145) iX11_moves_144 rfl ?_
            obtain ⟨hn14, hv⟩ := hv
            refine At_iald (pc' := 146) iX11_moves_145 rfl (kdH eT (kd_60 hL)) hn14 (show At (d + 2) MX11_moves 146 [.ref 59, .int x1, .int x2, .int x3, .int x4, .int x5, .int x6, .int (r_X11_ofMove x1 x2 (nI 0) h), .int (((gI h 60 0) - (nI 1)) - (r_X11_ofMove x1 x2 (nI 1) h)), .int (((gI h 60 0) - (nI 1)) - (r_X11_ofMove x1 x2 (nI 2) h)), .int (gI h 65 ((((gI h 60 0) - (nI 1)) - (r_X11_ofMove x1 x2 (nI 1) h)).toNatClampNeg)), .int (r_X11_ofMove x1 x2 (nI 3) h)] [.int (gI h 60 (((nI 10) + (gI h 65 ((((gI h 60 0) - (nI 1)) - (r_X11_ofMove x1 x2 (nI 1) h)).toNatClampNeg))).toNatClampNeg))] h Q from ?_)
            refine At_iload (pc' := 148) iX11_moves_146 rfl rfl ?_
            refine At_icmp_eq (t := 153) (pc' := 151) iX11_moves_148 (by decide) rfl (fun c148 => ?_) (fun c148 => ?_)
            · have hv := hv.1 c148
              refine At_iload (pc' := 155) iX11_moves_153 rfl rfl ?_
              refine At_if_ne (t := 171) (pc' := 158) iX11_moves_155 (by decide) rfl (fun c155 => ?_) (fun c155 => ?_)
              · have hv := hv.2 c155
                refine At_aload_n (pc' := 172) iX11_moves_171 rfl rfl ?_
                refine At_iload (pc' := 174) iX11_moves_172 rfl rfl ?_
                refine At_iload (pc' := 176) iX11_moves_174 rfl rfl ?_
                refine At_iload (pc' := 178) iX11_moves_176 rfl rfl ?_
                refine At_virt (pc' := 181) iX11_moves_178 rfl m_11_195 rfl rfl (kdK eT (kd_59 hL)) (Nat.le_of_ble_eq_true rfl) (Nat.le_of_ble_eq_true rfl) ?_
                obtain ⟨hn15, hv⟩ := hv
                refine c_X11_swaps (h := h) hL eT (((gI h 60 0) - (nI 1)) - (r_X11_ofMove x1 x2 (nI 1) h)) (((gI h 60 0) - (nI 1)) - (r_X11_ofMove x1 x2 (nI 2) h)) x6  hn15 (show At (d + 2) MX11_moves 181 [.ref 59, .int x1, .int x2, .int x3, .int x4, .int x5, .int x6, .int (r_X11_ofMove x1 x2 (nI 0) h), .int (((gI h 60 0) - (nI 1)) - (r_X11_ofMove x1 x2 (nI 1) h)), .int (((gI h 60 0) - (nI 1)) - (r_X11_ofMove x1 x2 (nI 2) h)), .int (gI h 65 ((((gI h 60 0) - (nI 1)) - (r_X11_ofMove x1 x2 (nI 1) h)).toNatClampNeg)), .int (r_X11_ofMove x1 x2 (nI 3) h)] [] (w_X11_swaps (((gI h 60 0) - (nI 1)) - (r_X11_ofMove x1 x2 (nI 1) h)) (((gI h 60 0) - (nI 1)) - (r_X11_ofMove x1 x2 (nI 2) h)) x6 h) Q from ?_)
                refine At_iload (pc' := 183) iX11_moves_181 rfl rfl ?_
                exact At_retI iX11_moves_183 rfl hv
              · have hv := hv.1 c155
                refine At_aload_n (pc' := 159) iX11_moves_158 rfl rfl ?_
                refine At_iload (pc' := 161) iX11_moves_159 rfl rfl ?_
                refine At_iload (pc' := 163) iX11_moves_161 rfl rfl ?_
                refine At_iload (pc' := 165) iX11_moves_163 rfl rfl ?_
                refine At_virt (pc' := 168) iX11_moves_165 rfl m_11_192 rfl rfl (kdK eT (kd_59 hL)) (Nat.le_of_ble_eq_true rfl) (Nat.le_of_ble_eq_true rfl) ?_
                refine At.mono (show CallV (d + 1) MX11_lifts [.ref 59, .int (((gI h 60 0) - (nI 1)) - (r_X11_ofMove x1 x2 (nI 1) h)), .int (((gI h 60 0) - (nI 1)) - (r_X11_ofMove x1 x2 (nI 2) h)), .int x6] h _ from hv) ?_
                rintro _ h165 ⟨rfl, eT165, hv⟩
                show At (d + 2) MX11_moves 168 [.ref 59, .int x1, .int x2, .int x3, .int x4, .int x5, .int x6, .int (r_X11_ofMove x1 x2 (nI 0) h), .int (((gI h 60 0) - (nI 1)) - (r_X11_ofMove x1 x2 (nI 1) h)), .int (((gI h 60 0) - (nI 1)) - (r_X11_ofMove x1 x2 (nI 2) h)), .int (gI h 65 ((((gI h 60 0) - (nI 1)) - (r_X11_ofMove x1 x2 (nI 1) h)).toNatClampNeg)), .int (r_X11_ofMove x1 x2 (nI 3) h)] [] h165 Q
                refine At_goto (t := 181) iX11_moves_168 (by decide) ?_
                refine At_iload (pc' := 183) iX11_moves_181 rfl rfl ?_
                exact At_retI iX11_moves_183 rfl hv
            · have hv := hv.2 c148
              refine At_iconst (v := (-1)) (pc' := 152) iX11_moves_151 rfl (by decide) ?_
              exact At_retI iX11_moves_152 rfl hv
  · have hv := hv.1 c21
    refine At_aload_n (pc' := 25) iX11_moves_24 rfl rfl ?_
    refine At_getR (pc' := 28) iX11_moves_25 rfl f_11_7 (kdK eT (kd_59 hL)) (by decide) (rfH eT (rf_59_0 hL)) ?_
    refine At_iconst (v := nI 0) (pc' := 29) iX11_moves_28 rfl (by decide) ?_
    refine At_iald (pc' := 30) iX11_moves_29 rfl (kdH eT (kd_60 hL)) (by decide) (show At (d + 2) MX11_moves 30 [.ref 59, .int x1, .int x2, .int x3, .int x4, .int x5, .int x6, .int (r_X11_ofMove x1 x2 (nI 0) h), .int (r_X11_ofMove x1 x2 (nI 1) h), un, un, un] [.int (gI h 60 0)] h Q from ?_)
    refine At_istore (L' := [.ref 59, .int x1, .int x2, .int x3, .int x4, .int x5, .int x6, .int (r_X11_ofMove x1 x2 (nI 0) h), .int (r_X11_ofMove x1 x2 (nI 1) h), .int (gI h 60 0), un, un]) (pc' := 32) iX11_moves_30 rfl (Nat.le_of_ble_eq_true rfl) rfl ?_
    refine At_aload_n (pc' := 33) iX11_moves_32 rfl rfl ?_
    refine At_iload_n (pc' := 34) iX11_moves_33 rfl rfl ?_
    refine At_if_eq (t := 51) (pc' := 37) iX11_moves_34 (by decide) rfl (fun c34 => ?_) (fun c34 => ?_)
    · have hv := hv.1 c34
      refine At_iload (pc' := 53) iX11_moves_51 rfl rfl ?_
      refine At_iload (pc' := 55) iX11_moves_53 rfl rfl ?_
      obtain ⟨hn16, hv⟩ := hv
      refine At_irem (pc' := 56) iX11_moves_55 rfl hn16 ?_
      refine At_virt (pc' := 59) iX11_moves_56 rfl m_11_189 rfl rfl (kdK eT (kd_59 hL)) (Nat.le_of_ble_eq_true rfl) (Nat.le_of_ble_eq_true rfl) ?_
      refine At.mono (show CallV (d + 1) MX11_turns [.ref 59, .int (irem (r_X11_ofMove x1 x2 (nI 1) h) (gI h 60 0))] h _ from hv) ?_
      rintro _ h56 ⟨rfl, eT56, hv⟩
      show At (d + 2) MX11_moves 59 [.ref 59, .int x1, .int x2, .int x3, .int x4, .int x5, .int x6, .int (r_X11_ofMove x1 x2 (nI 0) h), .int (r_X11_ofMove x1 x2 (nI 1) h), .int (gI h 60 0), un, un] [] h56 Q
      refine At_iconst (v := (-1)) (pc' := 60) iX11_moves_59 rfl (by decide) ?_
      exact At_retI iX11_moves_60 rfl hv
    · have hv := hv.2 c34
      refine At_iload (pc' := 39) iX11_moves_37 rfl rfl ?_
      refine At_iload (pc' := 41) iX11_moves_39 rfl rfl ?_
      refine At_iload (pc' := 43) iX11_moves_41 rfl rfl ?_
      obtain ⟨hn17, hv⟩ := hv
      refine At_irem (pc' := 44) iX11_moves_43 rfl hn17 ?_
      refine At_isub (pc' := 45) iX11_moves_44 rfl ?_
      refine At_iload (pc' := 47) iX11_moves_45 rfl rfl ?_
      obtain ⟨hn18, hv⟩ := hv
      refine At_irem (pc' := 48) iX11_moves_47 rfl hn18 ?_
      refine At_goto (t := 56) iX11_moves_48 (by decide) ?_
      refine At_virt (pc' := 59) iX11_moves_56 rfl m_11_189 rfl rfl (kdK eT (kd_59 hL)) (Nat.le_of_ble_eq_true rfl) (Nat.le_of_ble_eq_true rfl) ?_
      refine At.mono (show CallV (d + 1) MX11_turns [.ref 59, .int (irem ((gI h 60 0) - (irem (r_X11_ofMove x1 x2 (nI 1) h) (gI h 60 0))) (gI h 60 0))] h _ from hv) ?_
      rintro _ h56 ⟨rfl, eT56, hv⟩
      show At (d + 2) MX11_moves 59 [.ref 59, .int x1, .int x2, .int x3, .int x4, .int x5, .int x6, .int (r_X11_ofMove x1 x2 (nI 0) h), .int (r_X11_ofMove x1 x2 (nI 1) h), .int (gI h 60 0), un, un] [] h56 Q
      refine At_iconst (v := (-1)) (pc' := 60) iX11_moves_59 rfl (by decide) ?_
      exact At_retI iX11_moves_60 rfl hv
-- X11_next0 (loop)
def L_X11_next0_0 (d : Nat)  (h : Hp) (Q : Option Value → Hp → Prop) : Prop := ∀ v1 v2 : Value, At (d + 2) MX11_next0 0 [.ref 59, v1, v2] [] h Q
def L_X11_next0_126 (d : Nat)  (h : Hp) (Q : Option Value → Hp → Prop) : Prop := ∀ v1 v2 : Value, At (d + 2) MX11_next0 126 [.ref 59, v1, v2] [] h Q
def L_X11_next0_76 (d : Nat)  (h : Hp) (Q : Option Value → Hp → Prop) : Prop := ∀ v1 v2 : Value, At (d + 2) MX11_next0 76 [.ref 59, v1, v2] [] h Q
set_option maxRecDepth 20000 in
theorem b_X11_next0 {d : Nat} {T : HT} (hL : Lay T) {h : Hp} (eT : h.2.2 = T)   {Q : Option Value → Hp → Prop} (hv : (p_X11_see (gI h 59 9) h) ∧ ((((r_X11_see (gI h 59 9) h) = (nI 32)) → (L_X11_next0_0 d  (sI h 59 9 ((gI h 59 9) + (nI 1))) Q)) ∧ (¬ ((r_X11_see (gI h 59 9) h) = (nI 32)) → ((p_X11_see (gI h 59 9) h) ∧ ((((r_X11_see (gI h 59 9) h) = (nI 10)) → (L_X11_next0_0 d  (sI h 59 9 ((gI h 59 9) + (nI 1))) Q)) ∧ (¬ ((r_X11_see (gI h 59 9) h) = (nI 10)) → ((p_X11_see (gI (sI h 59 11 (gI h 59 9)) 59 9) (sI h 59 11 (gI h 59 9))) ∧ ((((r_X11_see (gI (sI h 59 11 (gI h 59 9)) 59 9) (sI h 59 11 (gI h 59 9))) = (-1)) → (Q none (sI (sI h 59 11 (gI h 59 9)) 59 10 (nI 0)))) ∧ (¬ ((r_X11_see (gI (sI h 59 11 (gI h 59 9)) 59 9) (sI h 59 11 (gI h 59 9))) = (-1)) → ((((r_X11_isLetter (r_X11_see (gI (sI h 59 11 (gI h 59 9)) 59 9) (sI h 59 11 (gI h 59 9)))) = true) → (L_X11_next0_76 d  (sI h 59 11 (gI h 59 9)) Q)) ∧ (¬ ((r_X11_isLetter (r_X11_see (gI (sI h 59 11 (gI h 59 9)) 59 9) (sI h 59 11 (gI h 59 9)))) = true) → ((((r_X11_isDigit (r_X11_see (gI (sI h 59 11 (gI h 59 9)) 59 9) (sI h 59 11 (gI h 59 9)))) = true) → (L_X11_next0_126 d  (sI (sI h 59 11 (gI h 59 9)) 59 12 (nI 0)) Q)) ∧ (¬ ((r_X11_isDigit (r_X11_see (gI (sI h 59 11 (gI h 59 9)) 59 9) (sI h 59 11 (gI h 59 9)))) = true) → ((((r_X11_see (gI (sI h 59 11 (gI h 59 9)) 59 9) (sI h 59 11 (gI h 59 9))) = (nI 59)) → ((((nI 1) = 0) → (Q none (sI (sI (sI h 59 11 (gI h 59 9)) 59 9 ((gI (sI h 59 11 (gI h 59 9)) 59 9) + (nI 1))) 59 10 (nI 1)))) ∧ (¬ ((nI 1) = 0) → (Q none (sI (sI (sI h 59 11 (gI h 59 9)) 59 9 ((gI (sI h 59 11 (gI h 59 9)) 59 9) + (nI 1))) 59 10 ((nI 100) + (r_X11_see (gI (sI h 59 11 (gI h 59 9)) 59 9) (sI h 59 11 (gI h 59 9))))))))) ∧ (¬ ((r_X11_see (gI (sI h 59 11 (gI h 59 9)) 59 9) (sI h 59 11 (gI h 59 9))) = (nI 59)) → ((((r_X11_see (gI (sI h 59 11 (gI h 59 9)) 59 9) (sI h 59 11 (gI h 59 9))) = (nI 40)) → ((((nI 1) = 0) → (Q none (sI (sI (sI h 59 11 (gI h 59 9)) 59 9 ((gI (sI h 59 11 (gI h 59 9)) 59 9) + (nI 1))) 59 10 (nI 1)))) ∧ (¬ ((nI 1) = 0) → (Q none (sI (sI (sI h 59 11 (gI h 59 9)) 59 9 ((gI (sI h 59 11 (gI h 59 9)) 59 9) + (nI 1))) 59 10 ((nI 100) + (r_X11_see (gI (sI h 59 11 (gI h 59 9)) 59 9) (sI h 59 11 (gI h 59 9))))))))) ∧ (¬ ((r_X11_see (gI (sI h 59 11 (gI h 59 9)) 59 9) (sI h 59 11 (gI h 59 9))) = (nI 40)) → ((((r_X11_see (gI (sI h 59 11 (gI h 59 9)) 59 9) (sI h 59 11 (gI h 59 9))) = (nI 41)) → ((((nI 1) = 0) → (Q none (sI (sI (sI h 59 11 (gI h 59 9)) 59 9 ((gI (sI h 59 11 (gI h 59 9)) 59 9) + (nI 1))) 59 10 (nI 1)))) ∧ (¬ ((nI 1) = 0) → (Q none (sI (sI (sI h 59 11 (gI h 59 9)) 59 9 ((gI (sI h 59 11 (gI h 59 9)) 59 9) + (nI 1))) 59 10 ((nI 100) + (r_X11_see (gI (sI h 59 11 (gI h 59 9)) 59 9) (sI h 59 11 (gI h 59 9))))))))) ∧ (¬ ((r_X11_see (gI (sI h 59 11 (gI h 59 9)) 59 9) (sI h 59 11 (gI h 59 9))) = (nI 41)) → ((((nI 0) = 0) → (Q none (sI (sI (sI h 59 11 (gI h 59 9)) 59 9 ((gI (sI h 59 11 (gI h 59 9)) 59 9) + (nI 1))) 59 10 (nI 1)))) ∧ (¬ ((nI 0) = 0) → (Q none (sI (sI (sI h 59 11 (gI h 59 9)) 59 9 ((gI (sI h 59 11 (gI h 59 9)) 59 9) + (nI 1))) 59 10 ((nI 100) + (r_X11_see (gI (sI h 59 11 (gI h 59 9)) 59 9) (sI h 59 11 (gI h 59 9))))))))))))))))))))))))))) : Call (d + 2) MX11_next0 [.ref 59] h Q := by
  show At (d + 2) MX11_next0 0 [.ref 59, un, un] [] h Q
  refine At_aload_n (pc' := 1) iX11_next0_0 rfl rfl ?_
  refine At_aload_n (pc' := 2) iX11_next0_1 rfl rfl ?_
  refine At_getI (pc' := 5) iX11_next0_2 rfl f_11_85 (kdK eT (kd_59 hL)) (by decide) ?_
  refine At_virt (pc' := 8) iX11_next0_5 rfl m_11_117 rfl rfl (kdK eT (kd_59 hL)) (Nat.le_of_ble_eq_true rfl) (Nat.le_of_ble_eq_true rfl) ?_
  obtain ⟨hn1, hv⟩ := hv
  refine c_X11_see (h := h) hL eT (gI h 59 9)  hn1 (show At (d + 2) MX11_next0 8 [.ref 59, un, un] [.int (r_X11_see (gI h 59 9) h)] h Q from ?_)
  refine At_bipush (v := nI 32) (pc' := 10) iX11_next0_8 rfl (by decide) ?_
  refine At_icmp_eq (t := 26) (pc' := 13) iX11_next0_10 (by decide) rfl (fun c10 => ?_) (fun c10 => ?_)
  · have hv := hv.1 c10
    refine At_aload_n (pc' := 27) iX11_next0_26 rfl rfl ?_
    refine At_dup (pc' := 28) iX11_next0_27 rfl rfl ?_
    refine At_getI (pc' := 31) iX11_next0_28 rfl f_11_85 (kdK eT (kd_59 hL)) (by decide) ?_
    refine At_iconst (v := nI 1) (pc' := 32) iX11_next0_31 rfl (by decide) ?_
    refine At_iadd (pc' := 33) iX11_next0_32 rfl ?_
    refine At_putI (pc' := 36) iX11_next0_33 rfl f_11_85 (kdK eT (kd_59 hL)) (Or.inl rfl) (by decide) ?_
    refine At_goto (t := 0) iX11_next0_36 (by decide) ?_
    exact hv _ _
  · have hv := hv.2 c10
    refine At_aload_n (pc' := 14) iX11_next0_13 rfl rfl ?_
    refine At_aload_n (pc' := 15) iX11_next0_14 rfl rfl ?_
    refine At_getI (pc' := 18) iX11_next0_15 rfl f_11_85 (kdK eT (kd_59 hL)) (by decide) ?_
    refine At_virt (pc' := 21) iX11_next0_18 rfl m_11_117 rfl rfl (kdK eT (kd_59 hL)) (Nat.le_of_ble_eq_true rfl) (Nat.le_of_ble_eq_true rfl) ?_
    obtain ⟨hn2, hv⟩ := hv
    refine c_X11_see (h := h) hL eT (gI h 59 9)  hn2 (show At (d + 2) MX11_next0 21 [.ref 59, un, un] [.int (r_X11_see (gI h 59 9) h)] h Q from ?_)
    refine At_bipush (v := nI 10) (pc' := 23) iX11_next0_21 rfl (by decide) ?_
    refine At_icmp_ne (t := 39) (pc' := 26) iX11_next0_23 (by decide) rfl (fun c23 => ?_) (fun c23 => ?_)
    · have hv := hv.2 c23
      refine At_aload_n (pc' := 40) iX11_next0_39 rfl rfl ?_
      refine At_aload_n (pc' := 41) iX11_next0_40 rfl rfl ?_
      refine At_getI (pc' := 44) iX11_next0_41 rfl f_11_85 (kdK eT (kd_59 hL)) (by decide) ?_
      refine At_putI (pc' := 47) iX11_next0_44 rfl f_11_88 (kdK eT (kd_59 hL)) (Or.inl rfl) (by decide) ?_
      refine At_aload_n (pc' := 48) iX11_next0_47 rfl rfl ?_
      refine At_aload_n (pc' := 49) iX11_next0_48 rfl rfl ?_
      refine At_getI (pc' := 52) iX11_next0_49 rfl f_11_85 (kdK eT (kd_59 hL)) (by decide) ?_
      refine At_virt (pc' := 55) iX11_next0_52 rfl m_11_117 rfl rfl (kdK eT (kd_59 hL)) (Nat.le_of_ble_eq_true rfl) (Nat.le_of_ble_eq_true rfl) ?_
      obtain ⟨hn3, hv⟩ := hv
      refine c_X11_see (h := sI h 59 11 (gI h 59 9)) hL eT (gI (sI h 59 11 (gI h 59 9)) 59 9)  hn3 (show At (d + 2) MX11_next0 55 [.ref 59, un, un] [.int (r_X11_see (gI (sI h 59 11 (gI h 59 9)) 59 9) (sI h 59 11 (gI h 59 9)))] (sI h 59 11 (gI h 59 9)) Q from ?_)
      refine At_istore_n (L' := [.ref 59, .int (r_X11_see (gI (sI h 59 11 (gI h 59 9)) 59 9) (sI h 59 11 (gI h 59 9))), un]) (pc' := 56) iX11_next0_55 rfl (Nat.le_of_ble_eq_true rfl) rfl ?_
      refine At_iload_n (pc' := 57) iX11_next0_56 rfl rfl ?_
      refine At_iconst (v := (-1)) (pc' := 58) iX11_next0_57 rfl (by decide) ?_
      refine At_icmp_ne (t := 69) (pc' := 61) iX11_next0_58 (by decide) rfl (fun c58 => ?_) (fun c58 => ?_)
      · have hv := hv.2 c58
        refine At_iload_n (pc' := 70) iX11_next0_69 rfl rfl ?_
        refine At_stat (pc' := 73) iX11_next0_70 rfl m_11_124 rfl rfl (Nat.le_of_ble_eq_true rfl) (Nat.le_of_ble_eq_true rfl) (Nat.le_of_ble_eq_true rfl) ?_
        refine c_X11_isLetter (h := sI h 59 11 (gI h 59 9)) (r_X11_see (gI (sI h 59 11 (gI h 59 9)) 59 9) (sI h 59 11 (gI h 59 9)))   (show At (d + 2) MX11_next0 73 [.ref 59, .int (r_X11_see (gI (sI h 59 11 (gI h 59 9)) 59 9) (sI h 59 11 (gI h 59 9))), un] [.int (b2i (r_X11_isLetter (r_X11_see (gI (sI h 59 11 (gI h 59 9)) 59 9) (sI h 59 11 (gI h 59 9)))))] (sI h 59 11 (gI h 59 9)) Q from ?_)
        refine At_zeq (t := 114) (pc' := 76) iX11_next0_73 (by decide) rfl (fun c73 => ?_) (fun c73 => ?_)
        · have hv := hv.2 c73
          refine At_iload_n (pc' := 115) iX11_next0_114 rfl rfl ?_
          refine At_stat (pc' := 118) iX11_next0_115 rfl m_11_130 rfl rfl (Nat.le_of_ble_eq_true rfl) (Nat.le_of_ble_eq_true rfl) (Nat.le_of_ble_eq_true rfl) ?_
          refine c_X11_isDigit (h := sI h 59 11 (gI h 59 9)) (r_X11_see (gI (sI h 59 11 (gI h 59 9)) 59 9) (sI h 59 11 (gI h 59 9)))   (show At (d + 2) MX11_next0 118 [.ref 59, .int (r_X11_see (gI (sI h 59 11 (gI h 59 9)) 59 9) (sI h 59 11 (gI h 59 9))), un] [.int (b2i (r_X11_isDigit (r_X11_see (gI (sI h 59 11 (gI h 59 9)) 59 9) (sI h 59 11 (gI h 59 9)))))] (sI h 59 11 (gI h 59 9)) Q from ?_)
          refine At_zeq (t := 214) (pc' := 121) iX11_next0_118 (by decide) rfl (fun c118 => ?_) (fun c118 => ?_)
          · have hv := hv.2 c118
            refine At_aload_n (pc' := 215) iX11_next0_214 rfl rfl ?_
            refine At_dup (pc' := 216) iX11_next0_215 rfl rfl ?_
            refine At_getI (pc' := 219) iX11_next0_216 rfl f_11_85 (kdK eT (kd_59 hL)) (by decide) ?_
            refine At_iconst (v := nI 1) (pc' := 220) iX11_next0_219 rfl (by decide) ?_
            refine At_iadd (pc' := 221) iX11_next0_220 rfl ?_
            refine At_putI (pc' := 224) iX11_next0_221 rfl f_11_85 (kdK eT (kd_59 hL)) (Or.inl rfl) (by decide) ?_
            refine At_iload_n (pc' := 225) iX11_next0_224 rfl rfl ?_
            refine At_bipush (v := nI 59) (pc' := 227) iX11_next0_225 rfl (by decide) ?_
            refine At_icmp_eq (t := 242) (pc' := 230) iX11_next0_227 (by decide) rfl (fun c227 => ?_) (fun c227 => ?_)
            · have hv := hv.1 c227
              refine At_iconst (v := nI 1) (pc' := 243) iX11_next0_242 rfl (by decide) ?_
              refine At_goto (t := 247) iX11_next0_243 (by decide) ?_
              refine At_istore_n (L' := [.ref 59, .int (r_X11_see (gI (sI h 59 11 (gI h 59 9)) 59 9) (sI h 59 11 (gI h 59 9))), .int (nI 1)]) (pc' := 248) iX11_next0_247 rfl (Nat.le_of_ble_eq_true rfl) rfl ?_
              refine At_aload_n (pc' := 249) iX11_next0_248 rfl rfl ?_
              refine At_iload_n (pc' := 250) iX11_next0_249 rfl rfl ?_
              refine At_if_eq (t := 260) (pc' := 253) iX11_next0_250 (by decide) rfl (fun c250 => ?_) (fun c250 => ?_)
              · have hv := hv.1 c250
                refine At_iconst (v := nI 1) (pc' := 261) iX11_next0_260 rfl (by decide) ?_
                refine At_putI (pc' := 264) iX11_next0_261 rfl f_11_121 (kdK eT (kd_59 hL)) (Or.inl rfl) (by decide) ?_
                exact At_retV iX11_next0_264 rfl hv
              · have hv := hv.2 c250
                refine At_bipush (v := nI 100) (pc' := 255) iX11_next0_253 rfl (by decide) ?_
                refine At_iload_n (pc' := 256) iX11_next0_255 rfl rfl ?_
                refine At_iadd (pc' := 257) iX11_next0_256 rfl ?_
                refine At_goto (t := 261) iX11_next0_257 (by decide) ?_
                refine At_putI (pc' := 264) iX11_next0_261 rfl f_11_121 (kdK eT (kd_59 hL)) (Or.inl rfl) (by decide) ?_
                exact At_retV iX11_next0_264 rfl hv
            · have hv := hv.2 c227
              refine At_iload_n (pc' := 231) iX11_next0_230 rfl rfl ?_
              refine At_bipush (v := nI 40) (pc' := 233) iX11_next0_231 rfl (by decide) ?_
              refine At_icmp_eq (t := 242) (pc' := 236) iX11_next0_233 (by decide) rfl (fun c233 => ?_) (fun c233 => ?_)
              · have hv := hv.1 c233
                refine At_iconst (v := nI 1) (pc' := 243) iX11_next0_242 rfl (by decide) ?_
                refine At_goto (t := 247) iX11_next0_243 (by decide) ?_
                refine At_istore_n (L' := [.ref 59, .int (r_X11_see (gI (sI h 59 11 (gI h 59 9)) 59 9) (sI h 59 11 (gI h 59 9))), .int (nI 1)]) (pc' := 248) iX11_next0_247 rfl (Nat.le_of_ble_eq_true rfl) rfl ?_
                refine At_aload_n (pc' := 249) iX11_next0_248 rfl rfl ?_
                refine At_iload_n (pc' := 250) iX11_next0_249 rfl rfl ?_
                refine At_if_eq (t := 260) (pc' := 253) iX11_next0_250 (by decide) rfl (fun c250 => ?_) (fun c250 => ?_)
                · have hv := hv.1 c250
                  refine At_iconst (v := nI 1) (pc' := 261) iX11_next0_260 rfl (by decide) ?_
                  refine At_putI (pc' := 264) iX11_next0_261 rfl f_11_121 (kdK eT (kd_59 hL)) (Or.inl rfl) (by decide) ?_
                  exact At_retV iX11_next0_264 rfl hv
                · have hv := hv.2 c250
                  refine At_bipush (v := nI 100) (pc' := 255) iX11_next0_253 rfl (by decide) ?_
                  refine At_iload_n (pc' := 256) iX11_next0_255 rfl rfl ?_
                  refine At_iadd (pc' := 257) iX11_next0_256 rfl ?_
                  refine At_goto (t := 261) iX11_next0_257 (by decide) ?_
                  refine At_putI (pc' := 264) iX11_next0_261 rfl f_11_121 (kdK eT (kd_59 hL)) (Or.inl rfl) (by decide) ?_
                  exact At_retV iX11_next0_264 rfl hv
              · have hv := hv.2 c233
                refine At_iload_n (pc' := 237) iX11_next0_236 rfl rfl ?_
                refine At_bipush (v := nI 41) (pc' := 239) iX11_next0_237 rfl (by decide) ?_
                refine At_icmp_ne (t := 246) (pc' := 242) iX11_next0_239 (by decide) rfl (fun c239 => ?_) (fun c239 => ?_)
                · have hv := hv.2 c239
                  refine At_iconst (v := nI 0) (pc' := 247) iX11_next0_246 rfl (by decide) ?_
                  refine At_istore_n (L' := [.ref 59, .int (r_X11_see (gI (sI h 59 11 (gI h 59 9)) 59 9) (sI h 59 11 (gI h 59 9))), .int (nI 0)]) (pc' := 248) iX11_next0_247 rfl (Nat.le_of_ble_eq_true rfl) rfl ?_
                  refine At_aload_n (pc' := 249) iX11_next0_248 rfl rfl ?_
                  refine At_iload_n (pc' := 250) iX11_next0_249 rfl rfl ?_
                  refine At_if_eq (t := 260) (pc' := 253) iX11_next0_250 (by decide) rfl (fun c250 => ?_) (fun c250 => ?_)
                  · have hv := hv.1 c250
                    refine At_iconst (v := nI 1) (pc' := 261) iX11_next0_260 rfl (by decide) ?_
                    refine At_putI (pc' := 264) iX11_next0_261 rfl f_11_121 (kdK eT (kd_59 hL)) (Or.inl rfl) (by decide) ?_
                    exact At_retV iX11_next0_264 rfl hv
                  · have hv := hv.2 c250
                    refine At_bipush (v := nI 100) (pc' := 255) iX11_next0_253 rfl (by decide) ?_
                    refine At_iload_n (pc' := 256) iX11_next0_255 rfl rfl ?_
                    refine At_iadd (pc' := 257) iX11_next0_256 rfl ?_
                    refine At_goto (t := 261) iX11_next0_257 (by decide) ?_
                    refine At_putI (pc' := 264) iX11_next0_261 rfl f_11_121 (kdK eT (kd_59 hL)) (Or.inl rfl) (by decide) ?_
                    exact At_retV iX11_next0_264 rfl hv
                · have hv := hv.1 c239
                  refine At_iconst (v := nI 1) (pc' := 243) iX11_next0_242 rfl (by decide) ?_
                  refine At_goto (t := 247) iX11_next0_243 (by decide) ?_
                  refine At_istore_n (L' := [.ref 59, .int (r_X11_see (gI (sI h 59 11 (gI h 59 9)) 59 9) (sI h 59 11 (gI h 59 9))), .int (nI 1)]) (pc' := 248) iX11_next0_247 rfl (Nat.le_of_ble_eq_true rfl) rfl ?_
                  refine At_aload_n (pc' := 249) iX11_next0_248 rfl rfl ?_
                  refine At_iload_n (pc' := 250) iX11_next0_249 rfl rfl ?_
                  refine At_if_eq (t := 260) (pc' := 253) iX11_next0_250 (by decide) rfl (fun c250 => ?_) (fun c250 => ?_)
                  · have hv := hv.1 c250
                    refine At_iconst (v := nI 1) (pc' := 261) iX11_next0_260 rfl (by decide) ?_
                    refine At_putI (pc' := 264) iX11_next0_261 rfl f_11_121 (kdK eT (kd_59 hL)) (Or.inl rfl) (by decide) ?_
                    exact At_retV iX11_next0_264 rfl hv
                  · have hv := hv.2 c250
                    refine At_bipush (v := nI 100) (pc' := 255) iX11_next0_253 rfl (by decide) ?_
                    refine At_iload_n (pc' := 256) iX11_next0_255 rfl rfl ?_
                    refine At_iadd (pc' := 257) iX11_next0_256 rfl ?_
                    refine At_goto (t := 261) iX11_next0_257 (by decide) ?_
                    refine At_putI (pc' := 264) iX11_next0_261 rfl f_11_121 (kdK eT (kd_59 hL)) (Or.inl rfl) (by decide) ?_
                    exact At_retV iX11_next0_264 rfl hv
          · have hv := hv.1 c118
            refine At_aload_n (pc' := 122) iX11_next0_121 rfl rfl ?_
            refine At_iconst (v := nI 0) (pc' := 123) iX11_next0_122 rfl (by decide) ?_
            refine At_putI (pc' := 126) iX11_next0_123 rfl f_11_133 (kdK eT (kd_59 hL)) (Or.inl rfl) (by decide) ?_
            exact hv _ _
        · have hv := hv.1 c73
          exact hv _ _
      · have hv := hv.1 c58
        refine At_aload_n (pc' := 62) iX11_next0_61 rfl rfl ?_
        refine At_iconst (v := nI 0) (pc' := 63) iX11_next0_62 rfl (by decide) ?_
        refine At_putI (pc' := 66) iX11_next0_63 rfl f_11_121 (kdK eT (kd_59 hL)) (Or.inl rfl) (by decide) ?_
        refine At_goto (t := 264) iX11_next0_66 (by decide) ?_
        exact At_retV iX11_next0_264 rfl hv
    · have hv := hv.1 c23
      refine At_aload_n (pc' := 27) iX11_next0_26 rfl rfl ?_
      refine At_dup (pc' := 28) iX11_next0_27 rfl rfl ?_
      refine At_getI (pc' := 31) iX11_next0_28 rfl f_11_85 (kdK eT (kd_59 hL)) (by decide) ?_
      refine At_iconst (v := nI 1) (pc' := 32) iX11_next0_31 rfl (by decide) ?_
      refine At_iadd (pc' := 33) iX11_next0_32 rfl ?_
      refine At_putI (pc' := 36) iX11_next0_33 rfl f_11_85 (kdK eT (kd_59 hL)) (Or.inl rfl) (by decide) ?_
      refine At_goto (t := 0) iX11_next0_36 (by decide) ?_
      exact hv _ _
set_option maxRecDepth 20000 in
theorem b_X11_next0_0 {d : Nat} {T : HT} (hL : Lay T) {h : Hp} (eT : h.2.2 = T)   {Q : Option Value → Hp → Prop} (hv : (p_X11_see (gI h 59 9) h) ∧ ((((r_X11_see (gI h 59 9) h) = (nI 32)) → (L_X11_next0_0 d  (sI h 59 9 ((gI h 59 9) + (nI 1))) Q)) ∧ (¬ ((r_X11_see (gI h 59 9) h) = (nI 32)) → ((p_X11_see (gI h 59 9) h) ∧ ((((r_X11_see (gI h 59 9) h) = (nI 10)) → (L_X11_next0_0 d  (sI h 59 9 ((gI h 59 9) + (nI 1))) Q)) ∧ (¬ ((r_X11_see (gI h 59 9) h) = (nI 10)) → ((p_X11_see (gI (sI h 59 11 (gI h 59 9)) 59 9) (sI h 59 11 (gI h 59 9))) ∧ ((((r_X11_see (gI (sI h 59 11 (gI h 59 9)) 59 9) (sI h 59 11 (gI h 59 9))) = (-1)) → (Q none (sI (sI h 59 11 (gI h 59 9)) 59 10 (nI 0)))) ∧ (¬ ((r_X11_see (gI (sI h 59 11 (gI h 59 9)) 59 9) (sI h 59 11 (gI h 59 9))) = (-1)) → ((((r_X11_isLetter (r_X11_see (gI (sI h 59 11 (gI h 59 9)) 59 9) (sI h 59 11 (gI h 59 9)))) = true) → (L_X11_next0_76 d  (sI h 59 11 (gI h 59 9)) Q)) ∧ (¬ ((r_X11_isLetter (r_X11_see (gI (sI h 59 11 (gI h 59 9)) 59 9) (sI h 59 11 (gI h 59 9)))) = true) → ((((r_X11_isDigit (r_X11_see (gI (sI h 59 11 (gI h 59 9)) 59 9) (sI h 59 11 (gI h 59 9)))) = true) → (L_X11_next0_126 d  (sI (sI h 59 11 (gI h 59 9)) 59 12 (nI 0)) Q)) ∧ (¬ ((r_X11_isDigit (r_X11_see (gI (sI h 59 11 (gI h 59 9)) 59 9) (sI h 59 11 (gI h 59 9)))) = true) → ((((r_X11_see (gI (sI h 59 11 (gI h 59 9)) 59 9) (sI h 59 11 (gI h 59 9))) = (nI 59)) → ((((nI 1) = 0) → (Q none (sI (sI (sI h 59 11 (gI h 59 9)) 59 9 ((gI (sI h 59 11 (gI h 59 9)) 59 9) + (nI 1))) 59 10 (nI 1)))) ∧ (¬ ((nI 1) = 0) → (Q none (sI (sI (sI h 59 11 (gI h 59 9)) 59 9 ((gI (sI h 59 11 (gI h 59 9)) 59 9) + (nI 1))) 59 10 ((nI 100) + (r_X11_see (gI (sI h 59 11 (gI h 59 9)) 59 9) (sI h 59 11 (gI h 59 9))))))))) ∧ (¬ ((r_X11_see (gI (sI h 59 11 (gI h 59 9)) 59 9) (sI h 59 11 (gI h 59 9))) = (nI 59)) → ((((r_X11_see (gI (sI h 59 11 (gI h 59 9)) 59 9) (sI h 59 11 (gI h 59 9))) = (nI 40)) → ((((nI 1) = 0) → (Q none (sI (sI (sI h 59 11 (gI h 59 9)) 59 9 ((gI (sI h 59 11 (gI h 59 9)) 59 9) + (nI 1))) 59 10 (nI 1)))) ∧ (¬ ((nI 1) = 0) → (Q none (sI (sI (sI h 59 11 (gI h 59 9)) 59 9 ((gI (sI h 59 11 (gI h 59 9)) 59 9) + (nI 1))) 59 10 ((nI 100) + (r_X11_see (gI (sI h 59 11 (gI h 59 9)) 59 9) (sI h 59 11 (gI h 59 9))))))))) ∧ (¬ ((r_X11_see (gI (sI h 59 11 (gI h 59 9)) 59 9) (sI h 59 11 (gI h 59 9))) = (nI 40)) → ((((r_X11_see (gI (sI h 59 11 (gI h 59 9)) 59 9) (sI h 59 11 (gI h 59 9))) = (nI 41)) → ((((nI 1) = 0) → (Q none (sI (sI (sI h 59 11 (gI h 59 9)) 59 9 ((gI (sI h 59 11 (gI h 59 9)) 59 9) + (nI 1))) 59 10 (nI 1)))) ∧ (¬ ((nI 1) = 0) → (Q none (sI (sI (sI h 59 11 (gI h 59 9)) 59 9 ((gI (sI h 59 11 (gI h 59 9)) 59 9) + (nI 1))) 59 10 ((nI 100) + (r_X11_see (gI (sI h 59 11 (gI h 59 9)) 59 9) (sI h 59 11 (gI h 59 9))))))))) ∧ (¬ ((r_X11_see (gI (sI h 59 11 (gI h 59 9)) 59 9) (sI h 59 11 (gI h 59 9))) = (nI 41)) → ((((nI 0) = 0) → (Q none (sI (sI (sI h 59 11 (gI h 59 9)) 59 9 ((gI (sI h 59 11 (gI h 59 9)) 59 9) + (nI 1))) 59 10 (nI 1)))) ∧ (¬ ((nI 0) = 0) → (Q none (sI (sI (sI h 59 11 (gI h 59 9)) 59 9 ((gI (sI h 59 11 (gI h 59 9)) 59 9) + (nI 1))) 59 10 ((nI 100) + (r_X11_see (gI (sI h 59 11 (gI h 59 9)) 59 9) (sI h 59 11 (gI h 59 9))))))))))))))))))))))))))) : L_X11_next0_0 d  h Q := by
  intro v1 v2
  refine At_aload_n (pc' := 1) iX11_next0_0 rfl rfl ?_
  refine At_aload_n (pc' := 2) iX11_next0_1 rfl rfl ?_
  refine At_getI (pc' := 5) iX11_next0_2 rfl f_11_85 (kdK eT (kd_59 hL)) (by decide) ?_
  refine At_virt (pc' := 8) iX11_next0_5 rfl m_11_117 rfl rfl (kdK eT (kd_59 hL)) (Nat.le_of_ble_eq_true rfl) (Nat.le_of_ble_eq_true rfl) ?_
  obtain ⟨hn1, hv⟩ := hv
  refine c_X11_see (h := h) hL eT (gI h 59 9)  hn1 (show At (d + 2) MX11_next0 8 [.ref 59, v1, v2] [.int (r_X11_see (gI h 59 9) h)] h Q from ?_)
  refine At_bipush (v := nI 32) (pc' := 10) iX11_next0_8 rfl (by decide) ?_
  refine At_icmp_eq (t := 26) (pc' := 13) iX11_next0_10 (by decide) rfl (fun c10 => ?_) (fun c10 => ?_)
  · have hv := hv.1 c10
    refine At_aload_n (pc' := 27) iX11_next0_26 rfl rfl ?_
    refine At_dup (pc' := 28) iX11_next0_27 rfl rfl ?_
    refine At_getI (pc' := 31) iX11_next0_28 rfl f_11_85 (kdK eT (kd_59 hL)) (by decide) ?_
    refine At_iconst (v := nI 1) (pc' := 32) iX11_next0_31 rfl (by decide) ?_
    refine At_iadd (pc' := 33) iX11_next0_32 rfl ?_
    refine At_putI (pc' := 36) iX11_next0_33 rfl f_11_85 (kdK eT (kd_59 hL)) (Or.inl rfl) (by decide) ?_
    refine At_goto (t := 0) iX11_next0_36 (by decide) ?_
    exact hv _ _
  · have hv := hv.2 c10
    refine At_aload_n (pc' := 14) iX11_next0_13 rfl rfl ?_
    refine At_aload_n (pc' := 15) iX11_next0_14 rfl rfl ?_
    refine At_getI (pc' := 18) iX11_next0_15 rfl f_11_85 (kdK eT (kd_59 hL)) (by decide) ?_
    refine At_virt (pc' := 21) iX11_next0_18 rfl m_11_117 rfl rfl (kdK eT (kd_59 hL)) (Nat.le_of_ble_eq_true rfl) (Nat.le_of_ble_eq_true rfl) ?_
    obtain ⟨hn2, hv⟩ := hv
    refine c_X11_see (h := h) hL eT (gI h 59 9)  hn2 (show At (d + 2) MX11_next0 21 [.ref 59, v1, v2] [.int (r_X11_see (gI h 59 9) h)] h Q from ?_)
    refine At_bipush (v := nI 10) (pc' := 23) iX11_next0_21 rfl (by decide) ?_
    refine At_icmp_ne (t := 39) (pc' := 26) iX11_next0_23 (by decide) rfl (fun c23 => ?_) (fun c23 => ?_)
    · have hv := hv.2 c23
      refine At_aload_n (pc' := 40) iX11_next0_39 rfl rfl ?_
      refine At_aload_n (pc' := 41) iX11_next0_40 rfl rfl ?_
      refine At_getI (pc' := 44) iX11_next0_41 rfl f_11_85 (kdK eT (kd_59 hL)) (by decide) ?_
      refine At_putI (pc' := 47) iX11_next0_44 rfl f_11_88 (kdK eT (kd_59 hL)) (Or.inl rfl) (by decide) ?_
      refine At_aload_n (pc' := 48) iX11_next0_47 rfl rfl ?_
      refine At_aload_n (pc' := 49) iX11_next0_48 rfl rfl ?_
      refine At_getI (pc' := 52) iX11_next0_49 rfl f_11_85 (kdK eT (kd_59 hL)) (by decide) ?_
      refine At_virt (pc' := 55) iX11_next0_52 rfl m_11_117 rfl rfl (kdK eT (kd_59 hL)) (Nat.le_of_ble_eq_true rfl) (Nat.le_of_ble_eq_true rfl) ?_
      obtain ⟨hn3, hv⟩ := hv
      refine c_X11_see (h := sI h 59 11 (gI h 59 9)) hL eT (gI (sI h 59 11 (gI h 59 9)) 59 9)  hn3 (show At (d + 2) MX11_next0 55 [.ref 59, v1, v2] [.int (r_X11_see (gI (sI h 59 11 (gI h 59 9)) 59 9) (sI h 59 11 (gI h 59 9)))] (sI h 59 11 (gI h 59 9)) Q from ?_)
      refine At_istore_n (L' := [.ref 59, .int (r_X11_see (gI (sI h 59 11 (gI h 59 9)) 59 9) (sI h 59 11 (gI h 59 9))), v2]) (pc' := 56) iX11_next0_55 rfl (Nat.le_of_ble_eq_true rfl) rfl ?_
      refine At_iload_n (pc' := 57) iX11_next0_56 rfl rfl ?_
      refine At_iconst (v := (-1)) (pc' := 58) iX11_next0_57 rfl (by decide) ?_
      refine At_icmp_ne (t := 69) (pc' := 61) iX11_next0_58 (by decide) rfl (fun c58 => ?_) (fun c58 => ?_)
      · have hv := hv.2 c58
        refine At_iload_n (pc' := 70) iX11_next0_69 rfl rfl ?_
        refine At_stat (pc' := 73) iX11_next0_70 rfl m_11_124 rfl rfl (Nat.le_of_ble_eq_true rfl) (Nat.le_of_ble_eq_true rfl) (Nat.le_of_ble_eq_true rfl) ?_
        refine c_X11_isLetter (h := sI h 59 11 (gI h 59 9)) (r_X11_see (gI (sI h 59 11 (gI h 59 9)) 59 9) (sI h 59 11 (gI h 59 9)))   (show At (d + 2) MX11_next0 73 [.ref 59, .int (r_X11_see (gI (sI h 59 11 (gI h 59 9)) 59 9) (sI h 59 11 (gI h 59 9))), v2] [.int (b2i (r_X11_isLetter (r_X11_see (gI (sI h 59 11 (gI h 59 9)) 59 9) (sI h 59 11 (gI h 59 9)))))] (sI h 59 11 (gI h 59 9)) Q from ?_)
        refine At_zeq (t := 114) (pc' := 76) iX11_next0_73 (by decide) rfl (fun c73 => ?_) (fun c73 => ?_)
        · have hv := hv.2 c73
          refine At_iload_n (pc' := 115) iX11_next0_114 rfl rfl ?_
          refine At_stat (pc' := 118) iX11_next0_115 rfl m_11_130 rfl rfl (Nat.le_of_ble_eq_true rfl) (Nat.le_of_ble_eq_true rfl) (Nat.le_of_ble_eq_true rfl) ?_
          refine c_X11_isDigit (h := sI h 59 11 (gI h 59 9)) (r_X11_see (gI (sI h 59 11 (gI h 59 9)) 59 9) (sI h 59 11 (gI h 59 9)))   (show At (d + 2) MX11_next0 118 [.ref 59, .int (r_X11_see (gI (sI h 59 11 (gI h 59 9)) 59 9) (sI h 59 11 (gI h 59 9))), v2] [.int (b2i (r_X11_isDigit (r_X11_see (gI (sI h 59 11 (gI h 59 9)) 59 9) (sI h 59 11 (gI h 59 9)))))] (sI h 59 11 (gI h 59 9)) Q from ?_)
          refine At_zeq (t := 214) (pc' := 121) iX11_next0_118 (by decide) rfl (fun c118 => ?_) (fun c118 => ?_)
          · have hv := hv.2 c118
            refine At_aload_n (pc' := 215) iX11_next0_214 rfl rfl ?_
            refine At_dup (pc' := 216) iX11_next0_215 rfl rfl ?_
            refine At_getI (pc' := 219) iX11_next0_216 rfl f_11_85 (kdK eT (kd_59 hL)) (by decide) ?_
            refine At_iconst (v := nI 1) (pc' := 220) iX11_next0_219 rfl (by decide) ?_
            refine At_iadd (pc' := 221) iX11_next0_220 rfl ?_
            refine At_putI (pc' := 224) iX11_next0_221 rfl f_11_85 (kdK eT (kd_59 hL)) (Or.inl rfl) (by decide) ?_
            refine At_iload_n (pc' := 225) iX11_next0_224 rfl rfl ?_
            refine At_bipush (v := nI 59) (pc' := 227) iX11_next0_225 rfl (by decide) ?_
            refine At_icmp_eq (t := 242) (pc' := 230) iX11_next0_227 (by decide) rfl (fun c227 => ?_) (fun c227 => ?_)
            · have hv := hv.1 c227
              refine At_iconst (v := nI 1) (pc' := 243) iX11_next0_242 rfl (by decide) ?_
              refine At_goto (t := 247) iX11_next0_243 (by decide) ?_
              refine At_istore_n (L' := [.ref 59, .int (r_X11_see (gI (sI h 59 11 (gI h 59 9)) 59 9) (sI h 59 11 (gI h 59 9))), .int (nI 1)]) (pc' := 248) iX11_next0_247 rfl (Nat.le_of_ble_eq_true rfl) rfl ?_
              refine At_aload_n (pc' := 249) iX11_next0_248 rfl rfl ?_
              refine At_iload_n (pc' := 250) iX11_next0_249 rfl rfl ?_
              refine At_if_eq (t := 260) (pc' := 253) iX11_next0_250 (by decide) rfl (fun c250 => ?_) (fun c250 => ?_)
              · have hv := hv.1 c250
                refine At_iconst (v := nI 1) (pc' := 261) iX11_next0_260 rfl (by decide) ?_
                refine At_putI (pc' := 264) iX11_next0_261 rfl f_11_121 (kdK eT (kd_59 hL)) (Or.inl rfl) (by decide) ?_
                exact At_retV iX11_next0_264 rfl hv
              · have hv := hv.2 c250
                refine At_bipush (v := nI 100) (pc' := 255) iX11_next0_253 rfl (by decide) ?_
                refine At_iload_n (pc' := 256) iX11_next0_255 rfl rfl ?_
                refine At_iadd (pc' := 257) iX11_next0_256 rfl ?_
                refine At_goto (t := 261) iX11_next0_257 (by decide) ?_
                refine At_putI (pc' := 264) iX11_next0_261 rfl f_11_121 (kdK eT (kd_59 hL)) (Or.inl rfl) (by decide) ?_
                exact At_retV iX11_next0_264 rfl hv
            · have hv := hv.2 c227
              refine At_iload_n (pc' := 231) iX11_next0_230 rfl rfl ?_
              refine At_bipush (v := nI 40) (pc' := 233) iX11_next0_231 rfl (by decide) ?_
              refine At_icmp_eq (t := 242) (pc' := 236) iX11_next0_233 (by decide) rfl (fun c233 => ?_) (fun c233 => ?_)
              · have hv := hv.1 c233
                refine At_iconst (v := nI 1) (pc' := 243) iX11_next0_242 rfl (by decide) ?_
                refine At_goto (t := 247) iX11_next0_243 (by decide) ?_
                refine At_istore_n (L' := [.ref 59, .int (r_X11_see (gI (sI h 59 11 (gI h 59 9)) 59 9) (sI h 59 11 (gI h 59 9))), .int (nI 1)]) (pc' := 248) iX11_next0_247 rfl (Nat.le_of_ble_eq_true rfl) rfl ?_
                refine At_aload_n (pc' := 249) iX11_next0_248 rfl rfl ?_
                refine At_iload_n (pc' := 250) iX11_next0_249 rfl rfl ?_
                refine At_if_eq (t := 260) (pc' := 253) iX11_next0_250 (by decide) rfl (fun c250 => ?_) (fun c250 => ?_)
                · have hv := hv.1 c250
                  refine At_iconst (v := nI 1) (pc' := 261) iX11_next0_260 rfl (by decide) ?_
                  refine At_putI (pc' := 264) iX11_next0_261 rfl f_11_121 (kdK eT (kd_59 hL)) (Or.inl rfl) (by decide) ?_
                  exact At_retV iX11_next0_264 rfl hv
                · have hv := hv.2 c250
                  refine At_bipush (v := nI 100) (pc' := 255) iX11_next0_253 rfl (by decide) ?_
                  refine At_iload_n (pc' := 256) iX11_next0_255 rfl rfl ?_
                  refine At_iadd (pc' := 257) iX11_next0_256 rfl ?_
                  refine At_goto (t := 261) iX11_next0_257 (by decide) ?_
                  refine At_putI (pc' := 264) iX11_next0_261 rfl f_11_121 (kdK eT (kd_59 hL)) (Or.inl rfl) (by decide) ?_
                  exact At_retV iX11_next0_264 rfl hv
              · have hv := hv.2 c233
                refine At_iload_n (pc' := 237) iX11_next0_236 rfl rfl ?_
                refine At_bipush (v := nI 41) (pc' := 239) iX11_next0_237 rfl (by decide) ?_
                refine At_icmp_ne (t := 246) (pc' := 242) iX11_next0_239 (by decide) rfl (fun c239 => ?_) (fun c239 => ?_)
                · have hv := hv.2 c239
                  refine At_iconst (v := nI 0) (pc' := 247) iX11_next0_246 rfl (by decide) ?_
                  refine At_istore_n (L' := [.ref 59, .int (r_X11_see (gI (sI h 59 11 (gI h 59 9)) 59 9) (sI h 59 11 (gI h 59 9))), .int (nI 0)]) (pc' := 248) iX11_next0_247 rfl (Nat.le_of_ble_eq_true rfl) rfl ?_
                  refine At_aload_n (pc' := 249) iX11_next0_248 rfl rfl ?_
                  refine At_iload_n (pc' := 250) iX11_next0_249 rfl rfl ?_
                  refine At_if_eq (t := 260) (pc' := 253) iX11_next0_250 (by decide) rfl (fun c250 => ?_) (fun c250 => ?_)
                  · have hv := hv.1 c250
                    refine At_iconst (v := nI 1) (pc' := 261) iX11_next0_260 rfl (by decide) ?_
                    refine At_putI (pc' := 264) iX11_next0_261 rfl f_11_121 (kdK eT (kd_59 hL)) (Or.inl rfl) (by decide) ?_
                    exact At_retV iX11_next0_264 rfl hv
                  · have hv := hv.2 c250
                    refine At_bipush (v := nI 100) (pc' := 255) iX11_next0_253 rfl (by decide) ?_
                    refine At_iload_n (pc' := 256) iX11_next0_255 rfl rfl ?_
                    refine At_iadd (pc' := 257) iX11_next0_256 rfl ?_
                    refine At_goto (t := 261) iX11_next0_257 (by decide) ?_
                    refine At_putI (pc' := 264) iX11_next0_261 rfl f_11_121 (kdK eT (kd_59 hL)) (Or.inl rfl) (by decide) ?_
                    exact At_retV iX11_next0_264 rfl hv
                · have hv := hv.1 c239
                  refine At_iconst (v := nI 1) (pc' := 243) iX11_next0_242 rfl (by decide) ?_
                  refine At_goto (t := 247) iX11_next0_243 (by decide) ?_
                  refine At_istore_n (L' := [.ref 59, .int (r_X11_see (gI (sI h 59 11 (gI h 59 9)) 59 9) (sI h 59 11 (gI h 59 9))), .int (nI 1)]) (pc' := 248) iX11_next0_247 rfl (Nat.le_of_ble_eq_true rfl) rfl ?_
                  refine At_aload_n (pc' := 249) iX11_next0_248 rfl rfl ?_
                  refine At_iload_n (pc' := 250) iX11_next0_249 rfl rfl ?_
                  refine At_if_eq (t := 260) (pc' := 253) iX11_next0_250 (by decide) rfl (fun c250 => ?_) (fun c250 => ?_)
                  · have hv := hv.1 c250
                    refine At_iconst (v := nI 1) (pc' := 261) iX11_next0_260 rfl (by decide) ?_
                    refine At_putI (pc' := 264) iX11_next0_261 rfl f_11_121 (kdK eT (kd_59 hL)) (Or.inl rfl) (by decide) ?_
                    exact At_retV iX11_next0_264 rfl hv
                  · have hv := hv.2 c250
                    refine At_bipush (v := nI 100) (pc' := 255) iX11_next0_253 rfl (by decide) ?_
                    refine At_iload_n (pc' := 256) iX11_next0_255 rfl rfl ?_
                    refine At_iadd (pc' := 257) iX11_next0_256 rfl ?_
                    refine At_goto (t := 261) iX11_next0_257 (by decide) ?_
                    refine At_putI (pc' := 264) iX11_next0_261 rfl f_11_121 (kdK eT (kd_59 hL)) (Or.inl rfl) (by decide) ?_
                    exact At_retV iX11_next0_264 rfl hv
          · have hv := hv.1 c118
            refine At_aload_n (pc' := 122) iX11_next0_121 rfl rfl ?_
            refine At_iconst (v := nI 0) (pc' := 123) iX11_next0_122 rfl (by decide) ?_
            refine At_putI (pc' := 126) iX11_next0_123 rfl f_11_133 (kdK eT (kd_59 hL)) (Or.inl rfl) (by decide) ?_
            exact hv _ _
        · have hv := hv.1 c73
          exact hv _ _
      · have hv := hv.1 c58
        refine At_aload_n (pc' := 62) iX11_next0_61 rfl rfl ?_
        refine At_iconst (v := nI 0) (pc' := 63) iX11_next0_62 rfl (by decide) ?_
        refine At_putI (pc' := 66) iX11_next0_63 rfl f_11_121 (kdK eT (kd_59 hL)) (Or.inl rfl) (by decide) ?_
        refine At_goto (t := 264) iX11_next0_66 (by decide) ?_
        exact At_retV iX11_next0_264 rfl hv
    · have hv := hv.1 c23
      refine At_aload_n (pc' := 27) iX11_next0_26 rfl rfl ?_
      refine At_dup (pc' := 28) iX11_next0_27 rfl rfl ?_
      refine At_getI (pc' := 31) iX11_next0_28 rfl f_11_85 (kdK eT (kd_59 hL)) (by decide) ?_
      refine At_iconst (v := nI 1) (pc' := 32) iX11_next0_31 rfl (by decide) ?_
      refine At_iadd (pc' := 33) iX11_next0_32 rfl ?_
      refine At_putI (pc' := 36) iX11_next0_33 rfl f_11_85 (kdK eT (kd_59 hL)) (Or.inl rfl) (by decide) ?_
      refine At_goto (t := 0) iX11_next0_36 (by decide) ?_
      exact hv _ _
set_option maxRecDepth 20000 in
theorem b_X11_next0_126 {d : Nat} {T : HT} (hL : Lay T) {h : Hp} (eT : h.2.2 = T)   {Q : Option Value → Hp → Prop} (hv : (p_X11_see (gI h 59 9) h) ∧ ((((r_X11_isDigit (r_X11_see (gI h 59 9) h)) = true) → ((((gI h 59 9) < ((gI h 59 11) + (nI 4))) → ((p_X11_see (gI h 59 9) h) ∧ (L_X11_next0_126 d  (sI (sI h 59 12 ((((nI 10) * (gI h 59 12)) + (r_X11_see (gI h 59 9) h)) - (nI 48))) 59 9 ((gI (sI h 59 12 ((((nI 10) * (gI h 59 12)) + (r_X11_see (gI h 59 9) h)) - (nI 48))) 59 9) + (nI 1))) Q))) ∧ (¬ ((gI h 59 9) < ((gI h 59 11) + (nI 4))) → (L_X11_next0_126 d  (sI h 59 9 ((gI h 59 9) + (nI 1))) Q)))) ∧ (¬ ((r_X11_isDigit (r_X11_see (gI h 59 9) h)) = true) → (((((gI h 59 9) - (gI h 59 11)) < (nI 5)) → (Q none (sI h 59 10 (nI 2)))) ∧ (¬ (((gI h 59 9) - (gI h 59 11)) < (nI 5)) → (Q none (sI h 59 10 (nI 1)))))))) : L_X11_next0_126 d  h Q := by
  intro v1 v2
  refine At_aload_n (pc' := 127) iX11_next0_126 rfl rfl ?_
  refine At_aload_n (pc' := 128) iX11_next0_127 rfl rfl ?_
  refine At_getI (pc' := 131) iX11_next0_128 rfl f_11_85 (kdK eT (kd_59 hL)) (by decide) ?_
  refine At_virt (pc' := 134) iX11_next0_131 rfl m_11_117 rfl rfl (kdK eT (kd_59 hL)) (Nat.le_of_ble_eq_true rfl) (Nat.le_of_ble_eq_true rfl) ?_
  obtain ⟨hn1, hv⟩ := hv
  refine c_X11_see (h := h) hL eT (gI h 59 9)  hn1 (show At (d + 2) MX11_next0 134 [.ref 59, v1, v2] [.int (r_X11_see (gI h 59 9) h)] h Q from ?_)
  refine At_stat (pc' := 137) iX11_next0_134 rfl m_11_130 rfl rfl (Nat.le_of_ble_eq_true rfl) (Nat.le_of_ble_eq_true rfl) (Nat.le_of_ble_eq_true rfl) ?_
  refine c_X11_isDigit (h := h) (r_X11_see (gI h 59 9) h)   (show At (d + 2) MX11_next0 137 [.ref 59, v1, v2] [.int (b2i (r_X11_isDigit (r_X11_see (gI h 59 9) h)))] h Q from ?_)
  refine At_zeq (t := 189) (pc' := 140) iX11_next0_137 (by decide) rfl (fun c137 => ?_) (fun c137 => ?_)
  · have hv := hv.2 c137
    refine At_aload_n (pc' := 190) iX11_next0_189 rfl rfl ?_
    refine At_aload_n (pc' := 191) iX11_next0_190 rfl rfl ?_
    refine At_getI (pc' := 194) iX11_next0_191 rfl f_11_85 (kdK eT (kd_59 hL)) (by decide) ?_
    refine At_aload_n (pc' := 195) iX11_next0_194 rfl rfl ?_
    refine At_getI (pc' := 198) iX11_next0_195 rfl f_11_88 (kdK eT (kd_59 hL)) (by decide) ?_
    refine At_isub (pc' := 199) iX11_next0_198 rfl ?_
    refine At_iconst (v := nI 5) (pc' := 200) iX11_next0_199 rfl (by decide) ?_
    refine At_icmp_ge (t := 207) (pc' := 203) iX11_next0_200 (by decide) rfl (fun c200 => ?_) (fun c200 => ?_)
    · have hv := hv.2 c200
      refine At_iconst (v := nI 1) (pc' := 208) iX11_next0_207 rfl (by decide) ?_
      refine At_putI (pc' := 211) iX11_next0_208 rfl f_11_121 (kdK eT (kd_59 hL)) (Or.inl rfl) (by decide) ?_
      refine At_goto (t := 264) iX11_next0_211 (by decide) ?_
      exact At_retV iX11_next0_264 rfl hv
    · have hv := hv.1 c200
      refine At_iconst (v := nI 2) (pc' := 204) iX11_next0_203 rfl (by decide) ?_
      refine At_goto (t := 208) iX11_next0_204 (by decide) ?_
      refine At_putI (pc' := 211) iX11_next0_208 rfl f_11_121 (kdK eT (kd_59 hL)) (Or.inl rfl) (by decide) ?_
      refine At_goto (t := 264) iX11_next0_211 (by decide) ?_
      exact At_retV iX11_next0_264 rfl hv
  · have hv := hv.1 c137
    refine At_aload_n (pc' := 141) iX11_next0_140 rfl rfl ?_
    refine At_getI (pc' := 144) iX11_next0_141 rfl f_11_85 (kdK eT (kd_59 hL)) (by decide) ?_
    refine At_aload_n (pc' := 145) iX11_next0_144 rfl rfl ?_
    refine At_getI (pc' := 148) iX11_next0_145 rfl f_11_88 (kdK eT (kd_59 hL)) (by decide) ?_
    refine At_iconst (v := nI 4) (pc' := 149) iX11_next0_148 rfl (by decide) ?_
    refine At_iadd (pc' := 150) iX11_next0_149 rfl ?_
    refine At_icmp_ge (t := 176) (pc' := 153) iX11_next0_150 (by decide) rfl (fun c150 => ?_) (fun c150 => ?_)
    · have hv := hv.2 c150
      refine At_aload_n (pc' := 177) iX11_next0_176 rfl rfl ?_
      refine At_dup (pc' := 178) iX11_next0_177 rfl rfl ?_
      refine At_getI (pc' := 181) iX11_next0_178 rfl f_11_85 (kdK eT (kd_59 hL)) (by decide) ?_
      refine At_iconst (v := nI 1) (pc' := 182) iX11_next0_181 rfl (by decide) ?_
      refine At_iadd (pc' := 183) iX11_next0_182 rfl ?_
      refine At_putI (pc' := 186) iX11_next0_183 rfl f_11_85 (kdK eT (kd_59 hL)) (Or.inl rfl) (by decide) ?_
      refine At_goto (t := 126) iX11_next0_186 (by decide) ?_
      exact hv _ _
    · have hv := hv.1 c150
      refine At_aload_n (pc' := 154) iX11_next0_153 rfl rfl ?_
      refine At_bipush (v := nI 10) (pc' := 156) iX11_next0_154 rfl (by decide) ?_
      refine At_aload_n (pc' := 157) iX11_next0_156 rfl rfl ?_
      refine At_getI (pc' := 160) iX11_next0_157 rfl f_11_133 (kdK eT (kd_59 hL)) (by decide) ?_
      refine At_imul (pc' := 161) iX11_next0_160 rfl ?_
      refine At_aload_n (pc' := 162) iX11_next0_161 rfl rfl ?_
      refine At_aload_n (pc' := 163) iX11_next0_162 rfl rfl ?_
      refine At_getI (pc' := 166) iX11_next0_163 rfl f_11_85 (kdK eT (kd_59 hL)) (by decide) ?_
      refine At_virt (pc' := 169) iX11_next0_166 rfl m_11_117 rfl rfl (kdK eT (kd_59 hL)) (Nat.le_of_ble_eq_true rfl) (Nat.le_of_ble_eq_true rfl) ?_
      obtain ⟨hn2, hv⟩ := hv
      refine c_X11_see (h := h) hL eT (gI h 59 9)  hn2 (show At (d + 2) MX11_next0 169 [.ref 59, v1, v2] [.int (r_X11_see (gI h 59 9) h), .int ((nI 10) * (gI h 59 12)), .ref 59] h Q from ?_)
      refine At_iadd (pc' := 170) iX11_next0_169 rfl ?_
      refine At_bipush (v := nI 48) (pc' := 172) iX11_next0_170 rfl (by decide) ?_
      refine At_isub (pc' := 173) iX11_next0_172 rfl ?_
      refine At_putI (pc' := 176) iX11_next0_173 rfl f_11_133 (kdK eT (kd_59 hL)) (Or.inl rfl) (by decide) ?_
      refine At_aload_n (pc' := 177) iX11_next0_176 rfl rfl ?_
      refine At_dup (pc' := 178) iX11_next0_177 rfl rfl ?_
      refine At_getI (pc' := 181) iX11_next0_178 rfl f_11_85 (kdK eT (kd_59 hL)) (by decide) ?_
      refine At_iconst (v := nI 1) (pc' := 182) iX11_next0_181 rfl (by decide) ?_
      refine At_iadd (pc' := 183) iX11_next0_182 rfl ?_
      refine At_putI (pc' := 186) iX11_next0_183 rfl f_11_85 (kdK eT (kd_59 hL)) (Or.inl rfl) (by decide) ?_
      refine At_goto (t := 126) iX11_next0_186 (by decide) ?_
      exact hv _ _
set_option maxRecDepth 20000 in
theorem b_X11_next0_76 {d : Nat} {T : HT} (hL : Lay T) {h : Hp} (eT : h.2.2 = T)   {Q : Option Value → Hp → Prop} (hv : (p_X11_see (gI h 59 9) h) ∧ ((((r_X11_isLetter (r_X11_see (gI h 59 9) h)) = true) → (L_X11_next0_76 d  (sI h 59 9 ((gI h 59 9) + (nI 1))) Q)) ∧ (¬ ((r_X11_isLetter (r_X11_see (gI h 59 9) h)) = true) → (CallI (d + 1) MX11_word [.ref 59] h (fun r105 h105 => h105.2.2 = T ∧ (Q none (sI h105 59 10 r105))))))) : L_X11_next0_76 d  h Q := by
  intro v1 v2
  refine At_aload_n (pc' := 77) iX11_next0_76 rfl rfl ?_
  refine At_aload_n (pc' := 78) iX11_next0_77 rfl rfl ?_
  refine At_getI (pc' := 81) iX11_next0_78 rfl f_11_85 (kdK eT (kd_59 hL)) (by decide) ?_
  refine At_virt (pc' := 84) iX11_next0_81 rfl m_11_117 rfl rfl (kdK eT (kd_59 hL)) (Nat.le_of_ble_eq_true rfl) (Nat.le_of_ble_eq_true rfl) ?_
  obtain ⟨hn1, hv⟩ := hv
  refine c_X11_see (h := h) hL eT (gI h 59 9)  hn1 (show At (d + 2) MX11_next0 84 [.ref 59, v1, v2] [.int (r_X11_see (gI h 59 9) h)] h Q from ?_)
  refine At_stat (pc' := 87) iX11_next0_84 rfl m_11_124 rfl rfl (Nat.le_of_ble_eq_true rfl) (Nat.le_of_ble_eq_true rfl) (Nat.le_of_ble_eq_true rfl) ?_
  refine c_X11_isLetter (h := h) (r_X11_see (gI h 59 9) h)   (show At (d + 2) MX11_next0 87 [.ref 59, v1, v2] [.int (b2i (r_X11_isLetter (r_X11_see (gI h 59 9) h)))] h Q from ?_)
  refine At_zeq (t := 103) (pc' := 90) iX11_next0_87 (by decide) rfl (fun c87 => ?_) (fun c87 => ?_)
  · have hv := hv.2 c87
    refine At_aload_n (pc' := 104) iX11_next0_103 rfl rfl ?_
    refine At_aload_n (pc' := 105) iX11_next0_104 rfl rfl ?_
    refine At_virt (pc' := 108) iX11_next0_105 rfl m_11_127 rfl rfl (kdK eT (kd_59 hL)) (Nat.le_of_ble_eq_true rfl) (Nat.le_of_ble_eq_true rfl) ?_
    refine At.mono (show CallI (d + 1) MX11_word [.ref 59] h _ from hv) ?_
    rintro _ h105 ⟨r105, rfl, eT105, hv⟩
    show At (d + 2) MX11_next0 108 [.ref 59, v1, v2] [.int r105, .ref 59] h105 Q
    refine At_putI (pc' := 111) iX11_next0_108 rfl f_11_121 (kdK eT105 (kd_59 hL)) (Or.inl rfl) (by decide) ?_
    refine At_goto (t := 264) iX11_next0_111 (by decide) ?_
    exact At_retV iX11_next0_264 rfl hv
  · have hv := hv.1 c87
    refine At_aload_n (pc' := 91) iX11_next0_90 rfl rfl ?_
    refine At_dup (pc' := 92) iX11_next0_91 rfl rfl ?_
    refine At_getI (pc' := 95) iX11_next0_92 rfl f_11_85 (kdK eT (kd_59 hL)) (by decide) ?_
    refine At_iconst (v := nI 1) (pc' := 96) iX11_next0_95 rfl (by decide) ?_
    refine At_iadd (pc' := 97) iX11_next0_96 rfl ?_
    refine At_putI (pc' := 100) iX11_next0_97 rfl f_11_85 (kdK eT (kd_59 hL)) (Or.inl rfl) (by decide) ?_
    refine At_goto (t := 76) iX11_next0_100 (by decide) ?_
    exact hv _ _
-- X11_of (calls X11_slotOf)
set_option maxRecDepth 20000 in
theorem b_X11_of {d : Nat} {T : HT} (hL : Lay T) {h : Hp} (eT : h.2.2 = T) (x1 : Int32) (x2 : Int32)  {Q : Option Value → Hp → Prop} (hv : (((r_X11_isSlot x1 h) = true) → (((x2 = 0) → (CallI (d + 1) MX11_slotOf [.ref 59, .int x1] h (fun r16 h16 => h16.2.2 = T ∧ (Q (some (.int r16)) h16)))) ∧ (¬ (x2 = 0) → (((x2 = (nI 1)) → ((inB ((nI 10) + x1) 4180 = true) ∧ (Q (some (.int (gI h 60 (((nI 10) + x1).toNatClampNeg)))) h))) ∧ (¬ (x2 = (nI 1)) → (((x2 = (nI 2)) → ((inB ((nI 26) + x1) 4180 = true) ∧ (Q (some (.int (gI h 60 (((nI 26) + x1).toNatClampNeg)))) h))) ∧ (¬ (x2 = (nI 2)) → (Q (some (.int (-1))) h)))))))) ∧ (¬ ((r_X11_isSlot x1 h) = true) → (Q (some (.int (-1))) h))) : Call (d + 2) MX11_of [.ref 59, .int x1, .int x2] h Q := by
  show At (d + 2) MX11_of 0 [.ref 59, .int x1, .int x2] [] h Q
  refine At_aload_n (pc' := 1) iX11_of_0 rfl rfl ?_
  refine At_iload_n (pc' := 2) iX11_of_1 rfl rfl ?_
  refine At_virt (pc' := 5) iX11_of_2 rfl m_11_78 rfl rfl (kdK eT (kd_59 hL)) (Nat.le_of_ble_eq_true rfl) (Nat.le_of_ble_eq_true rfl) ?_
  refine c_X11_isSlot (h := h) hL eT x1   (show At (d + 2) MX11_of 5 [.ref 59, .int x1, .int x2] [.int (b2i (r_X11_isSlot x1 h))] h Q from ?_)
  refine At_zne (t := 10) (pc' := 8) iX11_of_5 (by decide) rfl (fun c5 => ?_) (fun c5 => ?_)
  · have hv := hv.1 c5
    refine At_iload_n (pc' := 11) iX11_of_10 rfl rfl ?_
    refine At_if_ne (t := 22) (pc' := 14) iX11_of_11 (by decide) rfl (fun c11 => ?_) (fun c11 => ?_)
    · have hv := hv.2 c11
      refine At_iload_n (pc' := 23) iX11_of_22 rfl rfl ?_
      refine At_iconst (v := nI 1) (pc' := 24) iX11_of_23 rfl (by decide) ?_
      refine At_icmp_ne (t := 39) (pc' := 27) iX11_of_24 (by decide) rfl (fun c24 => ?_) (fun c24 => ?_)
      · have hv := hv.2 c24
        refine At_iload_n (pc' := 40) iX11_of_39 rfl rfl ?_
        refine At_iconst (v := nI 2) (pc' := 41) iX11_of_40 rfl (by decide) ?_
        refine At_icmp_ne (t := 56) (pc' := 44) iX11_of_41 (by decide) rfl (fun c41 => ?_) (fun c41 => ?_)
        · have hv := hv.2 c41
          refine At_iconst (v := (-1)) (pc' := 57) iX11_of_56 rfl (by decide) ?_
          exact At_retI iX11_of_57 rfl hv
        · have hv := hv.1 c41
          refine At_aload_n (pc' := 45) iX11_of_44 rfl rfl ?_
          refine At_getR (pc' := 48) iX11_of_45 rfl f_11_7 (kdK eT (kd_59 hL)) (by decide) (rfH eT (rf_59_0 hL)) ?_
          refine At_bipush (v := nI 26) (pc' := 50) iX11_of_48 rfl (by decide) ?_
          refine At_iload_n (pc' := 51) iX11_of_50 rfl rfl ?_
          refine At_iadd (pc' := 52) iX11_of_51 rfl ?_
          obtain ⟨hn1, hv⟩ := hv
          refine At_iald (pc' := 53) iX11_of_52 rfl (kdH eT (kd_60 hL)) hn1 (show At (d + 2) MX11_of 53 [.ref 59, .int x1, .int x2] [.int (gI h 60 (((nI 26) + x1).toNatClampNeg))] h Q from ?_)
          refine At_goto (t := 57) iX11_of_53 (by decide) ?_
          exact At_retI iX11_of_57 rfl hv
      · have hv := hv.1 c24
        refine At_aload_n (pc' := 28) iX11_of_27 rfl rfl ?_
        refine At_getR (pc' := 31) iX11_of_28 rfl f_11_7 (kdK eT (kd_59 hL)) (by decide) (rfH eT (rf_59_0 hL)) ?_
        refine At_bipush (v := nI 10) (pc' := 33) iX11_of_31 rfl (by decide) ?_
        refine At_iload_n (pc' := 34) iX11_of_33 rfl rfl ?_
        refine At_iadd (pc' := 35) iX11_of_34 rfl ?_
        obtain ⟨hn2, hv⟩ := hv
        refine At_iald (pc' := 36) iX11_of_35 rfl (kdH eT (kd_60 hL)) hn2 (show At (d + 2) MX11_of 36 [.ref 59, .int x1, .int x2] [.int (gI h 60 (((nI 10) + x1).toNatClampNeg))] h Q from ?_)
        refine At_goto (t := 57) iX11_of_36 (by decide) ?_
        exact At_retI iX11_of_57 rfl hv
    · have hv := hv.1 c11
      refine At_aload_n (pc' := 15) iX11_of_14 rfl rfl ?_
      refine At_iload_n (pc' := 16) iX11_of_15 rfl rfl ?_
      refine At_virt (pc' := 19) iX11_of_16 rfl m_11_217 rfl rfl (kdK eT (kd_59 hL)) (Nat.le_of_ble_eq_true rfl) (Nat.le_of_ble_eq_true rfl) ?_
      refine At.mono (show CallI (d + 1) MX11_slotOf [.ref 59, .int x1] h _ from hv) ?_
      rintro _ h16 ⟨r16, rfl, eT16, hv⟩
      show At (d + 2) MX11_of 19 [.ref 59, .int x1, .int x2] [.int r16] h16 Q
      refine At_goto (t := 57) iX11_of_19 (by decide) ?_
      exact At_retI iX11_of_57 rfl hv
  · have hv := hv.2 c5
    refine At_iconst (v := (-1)) (pc' := 9) iX11_of_8 rfl (by decide) ?_
    exact At_retI iX11_of_9 rfl hv
