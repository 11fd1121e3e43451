-- methods that are functions; written out by gen20.py
theorem At_retT {d : Nat} {y : Mth} {pc : Nat} {L : List Value} {h : Hp} {Q : Option Value → Hp → Prop} (hd : ins y pc = some (.ireturn, 1)) (ht : y.2.2.2.2.2 = some .boolean) (k : Q (some (.int (b2i true))) h) : At d y pc L [.int (nI 1)] h Q := At_retZ hd ht (Or.inr (by decide)) k
theorem At_retF {d : Nat} {y : Mth} {pc : Nat} {L : List Value} {h : Hp} {Q : Option Value → Hp → Prop} (hd : ins y pc = some (.ireturn, 1)) (ht : y.2.2.2.2.2 = some .boolean) (k : Q (some (.int (b2i false))) h) : At d y pc L [.int (nI 0)] h Q := At_retZ hd ht (Or.inl (by decide)) k
theorem sI_T (h : Hp) (a k : Nat) (v : Int32) : (sI h a k v).2.2 = h.2.2 := rfl
theorem sJ_T (h : Hp) (a k : Nat) (v : Int64) : (sJ h a k v).2.2 = h.2.2 := rfl
theorem cpI_T (h : Hp) (a sp b dp n : Nat) : (cpI h a sp b dp n).2.2 = h.2.2 := rfl
theorem wT_dummy : True := trivial
theorem inB_nI {j n : Nat} (h : j < n) (hn : n < 2 ^ 31) : inB (nI j) n = true := by
  unfold inB
  exact decide_eq_true (vp_in_nI h hn)
def w_X1_copy (a : Nat) (x1 : Nat) (h : Hp) : Hp := cpI (cpI (sI (sI (sI (sJ h a 0 (gJ h x1 0)) a 1 (gI (sJ h a 0 (gJ h x1 0)) x1 1)) a 2 (gI (sI (sJ h a 0 (gJ h x1 0)) a 1 (gI (sJ h a 0 (gJ h x1 0)) x1 1)) x1 2)) a 3 (gI (sI (sI (sJ h a 0 (gJ h x1 0)) a 1 (gI (sJ h a 0 (gJ h x1 0)) x1 1)) a 2 (gI (sI (sJ h a 0 (gJ h x1 0)) a 1 (gI (sJ h a 0 (gJ h x1 0)) x1 1)) x1 2)) x1 3)) (x1 + 1) 0 (a + 1) 0 16) (x1 + 2) 0 (a + 2) 0 256
theorem wT_X1_copy (a : Nat) (x1 : Nat) (h : Hp) : (w_X1_copy a x1 h).2.2 = h.2.2 := by
  unfold w_X1_copy
  repeat' split
  all_goals first | rfl | (simp only [sI_T, sJ_T, cpI_T, wT_dummy]; done)
set_option maxRecDepth 20000 in
theorem c_X1_copy {d : Nat} {T : HT} (hL : Lay T) {h : Hp} (eT : h.2.2 = T) (a : Nat) (x1 : Nat) (hA : IsX1 T a) (hA1 : IsX1 T x1) {Q : Option Value → Hp → Prop} (k : Q none (w_X1_copy a x1 h)) : Call (d + 0) MX1_copy [.ref a, .ref x1] h Q := by
  show At (d + 0) MX1_copy 0 [.ref a, .ref x1] [] h Q
  refine At_aload_n (pc' := 1) iX1_copy_0 rfl rfl ?_
  refine At_aload_n (pc' := 2) iX1_copy_1 rfl rfl ?_
  refine At_getJ (pc' := 5) iX1_copy_2 rfl f_1_15 (kdK eT (X1_k0 hA1)) (by decide) ?_
  refine At_putJ (pc' := 8) iX1_copy_5 rfl f_1_15 (kdK eT (X1_k0 hA)) (Or.inl rfl) (by decide) ?_
  refine At_aload_n (pc' := 9) iX1_copy_8 rfl rfl ?_
  refine At_aload_n (pc' := 10) iX1_copy_9 rfl rfl ?_
  refine At_getI (pc' := 13) iX1_copy_10 rfl f_1_21 (kdK eT (X1_k0 hA1)) (by decide) ?_
  refine At_putI (pc' := 16) iX1_copy_13 rfl f_1_21 (kdK eT (X1_k0 hA)) (Or.inl rfl) (by decide) ?_
  refine At_aload_n (pc' := 17) iX1_copy_16 rfl rfl ?_
  refine At_aload_n (pc' := 18) iX1_copy_17 rfl rfl ?_
  refine At_getI (pc' := 21) iX1_copy_18 rfl f_1_25 (kdK eT (X1_k0 hA1)) (by decide) ?_
  refine At_putI (pc' := 24) iX1_copy_21 rfl f_1_25 (kdK eT (X1_k0 hA)) (Or.inl rfl) (by decide) ?_
  refine At_aload_n (pc' := 25) iX1_copy_24 rfl rfl ?_
  refine At_aload_n (pc' := 26) iX1_copy_25 rfl rfl ?_
  refine At_getI (pc' := 29) iX1_copy_26 rfl f_1_28 (kdK eT (X1_k0 hA1)) (by decide) ?_
  refine At_putI (pc' := 32) iX1_copy_29 rfl f_1_28 (kdK eT (X1_k0 hA)) (Or.inl rfl) (by decide) ?_
  refine At_aload_n (pc' := 33) iX1_copy_32 rfl rfl ?_
  refine At_getR (pc' := 36) iX1_copy_33 rfl f_1_31 (kdK eT (X1_k0 hA1)) (by decide) (rfH eT (X1_r4 hA1)) ?_
  refine At_iconst (v := nI 0) (pc' := 37) iX1_copy_36 rfl (by decide) ?_
  refine At_aload_n (pc' := 38) iX1_copy_37 rfl rfl ?_
  refine At_getR (pc' := 41) iX1_copy_38 rfl f_1_31 (kdK eT (X1_k0 hA)) (by decide) (rfH eT (X1_r4 hA)) ?_
  refine At_iconst (v := nI 0) (pc' := 42) iX1_copy_41 rfl (by decide) ?_
  refine At_bipush (v := nI 16) (pc' := 44) iX1_copy_42 rfl (by decide) ?_
  refine At_copy (pc' := 47) iX1_copy_44 rfl m_1_44 (Nat.le_of_ble_eq_true rfl) (kdH eT (X1_k1 hA1)) (kdH eT (X1_k1 hA)) (by decide) (show At (d + 0) MX1_copy 47 [.ref a, .ref x1] [] (cpI (sI (sI (sI (sJ h a 0 (gJ h x1 0)) a 1 (gI (sJ h a 0 (gJ h x1 0)) x1 1)) a 2 (gI (sI (sJ h a 0 (gJ h x1 0)) a 1 (gI (sJ h a 0 (gJ h x1 0)) x1 1)) x1 2)) a 3 (gI (sI (sI (sJ h a 0 (gJ h x1 0)) a 1 (gI (sJ h a 0 (gJ h x1 0)) x1 1)) a 2 (gI (sI (sJ h a 0 (gJ h x1 0)) a 1 (gI (sJ h a 0 (gJ h x1 0)) x1 1)) x1 2)) x1 3)) (x1 + 1) 0 (a + 1) 0 16) Q from ?_)
  refine At_aload_n (pc' := 48) iX1_copy_47 rfl rfl ?_
  refine At_getR (pc' := 51) iX1_copy_48 rfl f_1_35 (kdK eT (X1_k0 hA1)) (by decide) (rfH eT (X1_r5 hA1)) ?_
  refine At_iconst (v := nI 0) (pc' := 52) iX1_copy_51 rfl (by decide) ?_
  refine At_aload_n (pc' := 53) iX1_copy_52 rfl rfl ?_
  refine At_getR (pc' := 56) iX1_copy_53 rfl f_1_35 (kdK eT (X1_k0 hA)) (by decide) (rfH eT (X1_r5 hA)) ?_
  refine At_iconst (v := nI 0) (pc' := 57) iX1_copy_56 rfl (by decide) ?_
  refine At_sipush (v := nI 256) (pc' := 60) iX1_copy_57 rfl (by decide) ?_
  refine At_copy (pc' := 63) iX1_copy_60 rfl m_1_44 (Nat.le_of_ble_eq_true rfl) (kdH eT (X1_k2 hA1)) (kdH eT (X1_k2 hA)) (by decide) (show At (d + 0) MX1_copy 63 [.ref a, .ref x1] [] (cpI (cpI (sI (sI (sI (sJ h a 0 (gJ h x1 0)) a 1 (gI (sJ h a 0 (gJ h x1 0)) x1 1)) a 2 (gI (sI (sJ h a 0 (gJ h x1 0)) a 1 (gI (sJ h a 0 (gJ h x1 0)) x1 1)) x1 2)) a 3 (gI (sI (sI (sJ h a 0 (gJ h x1 0)) a 1 (gI (sJ h a 0 (gJ h x1 0)) x1 1)) a 2 (gI (sI (sJ h a 0 (gJ h x1 0)) a 1 (gI (sJ h a 0 (gJ h x1 0)) x1 1)) x1 2)) x1 3)) (x1 + 1) 0 (a + 1) 0 16) (x1 + 2) 0 (a + 2) 0 256) Q from ?_)
  simp only [w_X1_copy] at k
  exact At_retV iX1_copy_63 rfl k
def r_X1_draw (a : Nat) (x1 : Int32) (h : Hp) : Int32 := if 0 < x1 then irem (ushr (gI (sI h a 1 (((nI 1664525) * (gI h a 1)) + (nI 1013904223))) a 1) (nI 8)) x1 else nI 0
def w_X1_draw (a : Nat) (x1 : Int32) (h : Hp) : Hp := if 0 < x1 then (sI h a 1 (((nI 1664525) * (gI h a 1)) + (nI 1013904223))) else (sI h a 1 (((nI 1664525) * (gI h a 1)) + (nI 1013904223)))
def p_X1_draw (a : Nat) (x1 : Int32) (h : Hp) : Prop := ((0 < x1) → ((¬ x1 = 0) ∧ True)) ∧ (¬ (0 < x1) → True)
theorem wT_X1_draw (a : Nat) (x1 : Int32) (h : Hp) : (w_X1_draw a x1 h).2.2 = h.2.2 := by
  unfold w_X1_draw
  repeat' split
  all_goals first | rfl | (simp only [sI_T, sJ_T, cpI_T, wT_dummy]; done)
set_option maxRecDepth 20000 in
theorem c_X1_draw {d : Nat} {T : HT} (hL : Lay T) {h : Hp} (eT : h.2.2 = T) (a : Nat) (x1 : Int32) (hA : IsX1 T a) (hp : p_X1_draw a x1 h) {Q : Option Value → Hp → Prop} (k : Q (some (.int (r_X1_draw a x1 h))) (w_X1_draw a x1 h)) : Call (d + 0) MX1_draw [.ref a, .int x1] h Q := by
  show At (d + 0) MX1_draw 0 [.ref a, .int x1] [] h Q
  simp only [p_X1_draw] at hp
  refine At_aload_n (pc' := 1) iX1_draw_0 rfl rfl ?_
  refine At_ldcI (v := nI 1664525) (pc' := 3) iX1_draw_1 rfl rfl ?_
  refine At_aload_n (pc' := 4) iX1_draw_3 rfl rfl ?_
  refine At_getI (pc' := 7) iX1_draw_4 rfl f_1_21 (kdK eT (X1_k0 hA)) (by decide) ?_
  refine At_imul (pc' := 8) iX1_draw_7 rfl ?_
  refine At_ldcI (v := nI 1013904223) (pc' := 10) iX1_draw_8 rfl rfl ?_
  refine At_iadd (pc' := 11) iX1_draw_10 rfl ?_
  refine At_putI (pc' := 14) iX1_draw_11 rfl f_1_21 (kdK eT (X1_k0 hA)) (Or.inl rfl) (by decide) ?_
  refine At_iload_n (pc' := 15) iX1_draw_14 rfl rfl ?_
  refine At_if_le (t := 30) (pc' := 18) iX1_draw_15 (by decide) rfl (fun c15 => ?_) (fun c15 => ?_)
  · have hp := hp.2 c15
    refine At_iconst (v := nI 0) (pc' := 31) iX1_draw_30 rfl (by decide) ?_
    simp only [r_X1_draw, w_X1_draw, if_neg c15] at k
    exact At_retI iX1_draw_31 rfl k
  · have hp := hp.1 c15
    refine At_aload_n (pc' := 19) iX1_draw_18 rfl rfl ?_
    refine At_getI (pc' := 22) iX1_draw_19 rfl f_1_21 (kdK eT (X1_k0 hA)) (by decide) ?_
    refine At_bipush (v := nI 8) (pc' := 24) iX1_draw_22 rfl (by decide) ?_
    refine At_iushr (pc' := 25) iX1_draw_24 rfl ?_
    refine At_iload_n (pc' := 26) iX1_draw_25 rfl rfl ?_
    obtain ⟨hp1, hp⟩ := hp
    refine At_irem (pc' := 27) iX1_draw_26 rfl hp1 ?_
    refine At_goto (t := 31) iX1_draw_27 (by decide) ?_
    simp only [r_X1_draw, w_X1_draw, if_pos c15] at k
    exact At_retI iX1_draw_31 rfl k
def r_X1_timesOver (a : Nat) (x1 : Int32) (x2 : Int32) (h : Hp) : Int32 := gI h (a + 2) (((x1 * (nI 16)) + x2).toNatClampNeg)
def p_X1_timesOver (a : Nat) (x1 : Int32) (x2 : Int32) (h : Hp) : Prop := (inB ((x1 * (nI 16)) + x2) 256 = true) ∧ True
set_option maxRecDepth 20000 in
theorem c_X1_timesOver {d : Nat} {T : HT} (hL : Lay T) {h : Hp} (eT : h.2.2 = T) (a : Nat) (x1 : Int32) (x2 : Int32) (hA : IsX1 T a) (hp : p_X1_timesOver a x1 x2 h) {Q : Option Value → Hp → Prop} (k : Q (some (.int (r_X1_timesOver a x1 x2 h))) h) : Call (d + 0) MX1_timesOver [.ref a, .int x1, .int x2] h Q := by
  show At (d + 0) MX1_timesOver 0 [.ref a, .int x1, .int x2] [] h Q
  simp only [p_X1_timesOver] at hp
  refine At_aload_n (pc' := 1) iX1_timesOver_0 rfl rfl ?_
  refine At_getR (pc' := 4) iX1_timesOver_1 rfl f_1_35 (kdK eT (X1_k0 hA)) (by decide) (rfH eT (X1_r5 hA)) ?_
  refine At_iload_n (pc' := 5) iX1_timesOver_4 rfl rfl ?_
  refine At_bipush (v := nI 16) (pc' := 7) iX1_timesOver_5 rfl (by decide) ?_
  refine At_imul (pc' := 8) iX1_timesOver_7 rfl ?_
  refine At_iload_n (pc' := 9) iX1_timesOver_8 rfl rfl ?_
  refine At_iadd (pc' := 10) iX1_timesOver_9 rfl ?_
  obtain ⟨hp1, hp⟩ := hp
  refine At_iald (pc' := 11) iX1_timesOver_10 rfl (kdH eT (X1_k2 hA)) hp1 (show At (d + 0) MX1_timesOver 11 [.ref a, .int x1, .int x2] [.int (gI h (a + 2) (((x1 * (nI 16)) + x2).toNatClampNeg))] h Q from ?_)
  simp only [r_X1_timesOver] at k
  exact At_retI iX1_timesOver_11 rfl k
def w_X2_forget (h : Hp) : Hp := sI h 28 0 (nI 0)
theorem wT_X2_forget (h : Hp) : (w_X2_forget h).2.2 = h.2.2 := by
  unfold w_X2_forget
  repeat' split
  all_goals first | rfl | (simp only [sI_T, sJ_T, cpI_T, wT_dummy]; done)
set_option maxRecDepth 20000 in
theorem c_X2_forget {d : Nat} {T : HT} (hL : Lay T) {h : Hp} (eT : h.2.2 = T)   {Q : Option Value → Hp → Prop} (k : Q none (w_X2_forget h)) : Call (d + 0) MX2_forget [.ref 28] h Q := by
  show At (d + 0) MX2_forget 0 [.ref 28] [] h Q
  refine At_aload_n (pc' := 1) iX2_forget_0 rfl rfl ?_
  refine At_iconst (v := nI 0) (pc' := 2) iX2_forget_1 rfl (by decide) ?_
  refine At_putI (pc' := 5) iX2_forget_2 rfl f_2_9 (kdK eT (kd_28 hL)) (Or.inl rfl) (by decide) ?_
  simp only [w_X2_forget] at k
  exact At_retV iX2_forget_5 rfl k
def r_X4_asked (x0 : Int32) : Int32 := (ushr x0 (nI 10)) - (nI 1)
set_option maxRecDepth 20000 in
theorem c_X4_asked {d : Nat} {h : Hp} (x0 : Int32)  {Q : Option Value → Hp → Prop} (k : Q (some (.int (r_X4_asked x0))) h) : Call (d + 0) MX4_asked [.int x0] h Q := by
  show At (d + 0) MX4_asked 0 [.int x0] [] h Q
  refine At_iload_n (pc' := 1) iX4_asked_0 rfl rfl ?_
  refine At_bipush (v := nI 10) (pc' := 3) iX4_asked_1 rfl (by decide) ?_
  refine At_iushr (pc' := 4) iX4_asked_3 rfl ?_
  refine At_iconst (v := nI 1) (pc' := 5) iX4_asked_4 rfl (by decide) ?_
  refine At_isub (pc' := 6) iX4_asked_5 rfl ?_
  simp only [r_X4_asked] at k
  exact At_retI iX4_asked_6 rfl k
def r_X4_from (x0 : Int32) : Int32 := (ushr x0 (nI 2)) &&& (nI 15)
set_option maxRecDepth 20000 in
theorem c_X4_from {d : Nat} {h : Hp} (x0 : Int32)  {Q : Option Value → Hp → Prop} (k : Q (some (.int (r_X4_from x0))) h) : Call (d + 0) MX4_from [.int x0] h Q := by
  show At (d + 0) MX4_from 0 [.int x0] [] h Q
  refine At_iload_n (pc' := 1) iX4_from_0 rfl rfl ?_
  refine At_iconst (v := nI 2) (pc' := 2) iX4_from_1 rfl (by decide) ?_
  refine At_iushr (pc' := 3) iX4_from_2 rfl ?_
  refine At_bipush (v := nI 15) (pc' := 5) iX4_from_3 rfl (by decide) ?_
  refine At_iand (pc' := 6) iX4_from_5 rfl ?_
  simp only [r_X4_from] at k
  exact At_retI iX4_from_6 rfl k
def r_X4_isBetween (x0 : Int32) (x1 : Int32) (x2 : Int32) : Bool := if (if x2 < x1 then x2 else x1) < x0 then (if x0 < (if x1 < x2 then x2 else x1) then true else false) else false
set_option maxRecDepth 20000 in
theorem c_X4_isBetween {d : Nat} {h : Hp} (x0 : Int32) (x1 : Int32) (x2 : Int32)  {Q : Option Value → Hp → Prop} (k : Q (some (.int (b2i (r_X4_isBetween x0 x1 x2)))) h) : Call (d + 0) MX4_isBetween [.int x0, .int x1, .int x2] h Q := by
  show At (d + 0) MX4_isBetween 0 [.int x0, .int x1, .int x2] [] h Q
  refine At_iload_n (pc' := 1) iX4_isBetween_0 rfl rfl ?_
  refine At_iload_n (pc' := 2) iX4_isBetween_1 rfl rfl ?_
  refine At_iload_n (pc' := 3) iX4_isBetween_2 rfl rfl ?_
  refine At_min (pc' := 6) iX4_isBetween_3 rfl m_4_56 (Nat.le_of_ble_eq_true rfl) ?_
  refine At_icmp_le (t := 22) (pc' := 9) iX4_isBetween_6 (by decide) rfl (fun c6 => ?_) (fun c6 => ?_)
  · refine At_iconst (v := nI 0) (pc' := 23) iX4_isBetween_22 rfl (by decide) ?_
    simp only [r_X4_isBetween, if_neg c6] at k
    exact At_retF iX4_isBetween_23 rfl k
  · refine At_iload_n (pc' := 10) iX4_isBetween_9 rfl rfl ?_
    refine At_iload_n (pc' := 11) iX4_isBetween_10 rfl rfl ?_
    refine At_iload_n (pc' := 12) iX4_isBetween_11 rfl rfl ?_
    refine At_max (pc' := 15) iX4_isBetween_12 rfl m_4_62 (Nat.le_of_ble_eq_true rfl) ?_
    refine At_icmp_ge (t := 22) (pc' := 18) iX4_isBetween_15 (by decide) rfl (fun c15 => ?_) (fun c15 => ?_)
    · refine At_iconst (v := nI 0) (pc' := 23) iX4_isBetween_22 rfl (by decide) ?_
      simp only [r_X4_isBetween, if_pos c6, if_neg c15] at k
      exact At_retF iX4_isBetween_23 rfl k
    · refine At_iconst (v := nI 1) (pc' := 19) iX4_isBetween_18 rfl (by decide) ?_
      refine At_goto (t := 23) iX4_isBetween_19 (by decide) ?_
      simp only [r_X4_isBetween, if_pos c6, if_pos c15] at k
      exact At_retT iX4_isBetween_23 rfl k
def r_X4_kind (x0 : Int32) : Int32 := x0 &&& (nI 3)
set_option maxRecDepth 20000 in
theorem c_X4_kind {d : Nat} {h : Hp} (x0 : Int32)  {Q : Option Value → Hp → Prop} (k : Q (some (.int (r_X4_kind x0))) h) : Call (d + 0) MX4_kind [.int x0] h Q := by
  show At (d + 0) MX4_kind 0 [.int x0] [] h Q
  refine At_iload_n (pc' := 1) iX4_kind_0 rfl rfl ?_
  refine At_iconst (v := nI 3) (pc' := 2) iX4_kind_1 rfl (by decide) ?_
  refine At_iand (pc' := 3) iX4_kind_2 rfl ?_
  simp only [r_X4_kind] at k
  exact At_retI iX4_kind_3 rfl k
def r_X4_packed (x0 : Int32) (x1 : Int32) (x2 : Int32) (x3 : Int32) : Int32 := ((x0 ||| (x1 <<< ((nI 2) &&& 31))) ||| (x2 <<< ((nI 6) &&& 31))) ||| ((x3 + (nI 1)) <<< ((nI 10) &&& 31))
set_option maxRecDepth 20000 in
theorem c_X4_packed {d : Nat} {h : Hp} (x0 : Int32) (x1 : Int32) (x2 : Int32) (x3 : Int32)  {Q : Option Value → Hp → Prop} (k : Q (some (.int (r_X4_packed x0 x1 x2 x3))) h) : Call (d + 0) MX4_packed [.int x0, .int x1, .int x2, .int x3] h Q := by
  show At (d + 0) MX4_packed 0 [.int x0, .int x1, .int x2, .int x3] [] h Q
  refine At_iload_n (pc' := 1) iX4_packed_0 rfl rfl ?_
  refine At_iload_n (pc' := 2) iX4_packed_1 rfl rfl ?_
  refine At_iconst (v := nI 2) (pc' := 3) iX4_packed_2 rfl (by decide) ?_
  refine At_ishl (pc' := 4) iX4_packed_3 rfl ?_
  refine At_ior (pc' := 5) iX4_packed_4 rfl ?_
  refine At_iload_n (pc' := 6) iX4_packed_5 rfl rfl ?_
  refine At_bipush (v := nI 6) (pc' := 8) iX4_packed_6 rfl (by decide) ?_
  refine At_ishl (pc' := 9) iX4_packed_8 rfl ?_
  refine At_ior (pc' := 10) iX4_packed_9 rfl ?_
  refine At_iload_n (pc' := 11) iX4_packed_10 rfl rfl ?_
  refine At_iconst (v := nI 1) (pc' := 12) iX4_packed_11 rfl (by decide) ?_
  refine At_iadd (pc' := 13) iX4_packed_12 rfl ?_
  refine At_bipush (v := nI 10) (pc' := 15) iX4_packed_13 rfl (by decide) ?_
  refine At_ishl (pc' := 16) iX4_packed_15 rfl ?_
  refine At_ior (pc' := 17) iX4_packed_16 rfl ?_
  simp only [r_X4_packed] at k
  exact At_retI iX4_packed_17 rfl k
def r_X4_to (x0 : Int32) : Int32 := (ushr x0 (nI 6)) &&& (nI 15)
set_option maxRecDepth 20000 in
theorem c_X4_to {d : Nat} {h : Hp} (x0 : Int32)  {Q : Option Value → Hp → Prop} (k : Q (some (.int (r_X4_to x0))) h) : Call (d + 0) MX4_to [.int x0] h Q := by
  show At (d + 0) MX4_to 0 [.int x0] [] h Q
  refine At_iload_n (pc' := 1) iX4_to_0 rfl rfl ?_
  refine At_bipush (v := nI 6) (pc' := 3) iX4_to_1 rfl (by decide) ?_
  refine At_iushr (pc' := 4) iX4_to_3 rfl ?_
  refine At_bipush (v := nI 15) (pc' := 6) iX4_to_4 rfl (by decide) ?_
  refine At_iand (pc' := 7) iX4_to_6 rfl ?_
  simp only [r_X4_to] at k
  exact At_retI iX4_to_7 rfl k
def r_X4_withoutAsking (x0 : Int32) : Int32 := x0 &&& (nI 1023)
set_option maxRecDepth 20000 in
theorem c_X4_withoutAsking {d : Nat} {h : Hp} (x0 : Int32)  {Q : Option Value → Hp → Prop} (k : Q (some (.int (r_X4_withoutAsking x0))) h) : Call (d + 0) MX4_withoutAsking [.int x0] h Q := by
  show At (d + 0) MX4_withoutAsking 0 [.int x0] [] h Q
  refine At_iload_n (pc' := 1) iX4_withoutAsking_0 rfl rfl ?_
  refine At_sipush (v := nI 1023) (pc' := 4) iX4_withoutAsking_1 rfl (by decide) ?_
  refine At_iand (pc' := 5) iX4_withoutAsking_4 rfl ?_
  simp only [r_X4_withoutAsking] at k
  exact At_retI iX4_withoutAsking_5 rfl k
def r_X5_fail (x1 : Int32) (h : Hp) : Bool := false
def w_X5_fail (x1 : Int32) (h : Hp) : Hp := sI (sI h 2 0 x1) 2 1 (gI (sI h 2 0 x1) 5 ((gI (sI h 2 0 x1) 2 5).toNatClampNeg))
def p_X5_fail (x1 : Int32) (h : Hp) : Prop := (inB (gI (sI h 2 0 x1) 2 5) 401 = true) ∧ True
theorem wT_X5_fail (x1 : Int32) (h : Hp) : (w_X5_fail x1 h).2.2 = h.2.2 := by
  unfold w_X5_fail
  repeat' split
  all_goals first | rfl | (simp only [sI_T, sJ_T, cpI_T, wT_dummy]; done)
set_option maxRecDepth 20000 in
theorem c_X5_fail {d : Nat} {T : HT} (hL : Lay T) {h : Hp} (eT : h.2.2 = T) (x1 : Int32)  (hp : p_X5_fail x1 h) {Q : Option Value → Hp → Prop} (k : Q (some (.int (b2i (r_X5_fail x1 h)))) (w_X5_fail x1 h)) : Call (d + 0) MX5_fail [.ref 2, .int x1] h Q := by
  show At (d + 0) MX5_fail 0 [.ref 2, .int x1] [] h Q
  simp only [p_X5_fail] at hp
  refine At_aload_n (pc' := 1) iX5_fail_0 rfl rfl ?_
  refine At_iload_n (pc' := 2) iX5_fail_1 rfl rfl ?_
  refine At_putI (pc' := 5) iX5_fail_2 rfl f_5_9 (kdK eT (kd_2 hL)) (Or.inl rfl) (by decide) ?_
  refine At_aload_n (pc' := 6) iX5_fail_5 rfl rfl ?_
  refine At_aload_n (pc' := 7) iX5_fail_6 rfl rfl ?_
  refine At_getR (pc' := 10) iX5_fail_7 rfl f_5_21 (kdK eT (kd_2 hL)) (by decide) (rfH eT (rf_2_2 hL)) ?_
  refine At_getR (pc' := 13) iX5_fail_10 rfl f_5_93 (kdK eT (kd_3 hL)) (by decide) (rfH eT (rf_3_3 hL)) ?_
  refine At_aload_n (pc' := 14) iX5_fail_13 rfl rfl ?_
  refine At_getI (pc' := 17) iX5_fail_14 rfl f_5_35 (kdK eT (kd_2 hL)) (by decide) ?_
  obtain ⟨hp1, hp⟩ := hp
  refine At_iald (pc' := 18) iX5_fail_17 rfl (kdH eT (kd_5 hL)) hp1 (show At (d + 0) MX5_fail 18 [.ref 2, .int x1] [.int (gI (sI h 2 0 x1) 5 ((gI (sI h 2 0 x1) 2 5).toNatClampNeg)), .ref 2] (sI h 2 0 x1) Q from ?_)
  refine At_putI (pc' := 21) iX5_fail_18 rfl f_5_15 (kdK eT (kd_2 hL)) (Or.inl rfl) (by decide) ?_
  refine At_iconst (v := nI 0) (pc' := 22) iX5_fail_21 rfl (by decide) ?_
  simp only [r_X5_fail, w_X5_fail] at k
  exact At_retF iX5_fail_22 rfl k
def w_X5_forgetFault (h : Hp) : Hp := sI (sI h 2 0 (nI 0)) 2 1 (-1)
theorem wT_X5_forgetFault (h : Hp) : (w_X5_forgetFault h).2.2 = h.2.2 := by
  unfold w_X5_forgetFault
  repeat' split
  all_goals first | rfl | (simp only [sI_T, sJ_T, cpI_T, wT_dummy]; done)
set_option maxRecDepth 20000 in
theorem c_X5_forgetFault {d : Nat} {T : HT} (hL : Lay T) {h : Hp} (eT : h.2.2 = T)   {Q : Option Value → Hp → Prop} (k : Q none (w_X5_forgetFault h)) : Call (d + 0) MX5_forgetFault [.ref 2] h Q := by
  show At (d + 0) MX5_forgetFault 0 [.ref 2] [] h Q
  refine At_aload_n (pc' := 1) iX5_forgetFault_0 rfl rfl ?_
  refine At_iconst (v := nI 0) (pc' := 2) iX5_forgetFault_1 rfl (by decide) ?_
  refine At_putI (pc' := 5) iX5_forgetFault_2 rfl f_5_9 (kdK eT (kd_2 hL)) (Or.inl rfl) (by decide) ?_
  refine At_aload_n (pc' := 6) iX5_forgetFault_5 rfl rfl ?_
  refine At_iconst (v := (-1)) (pc' := 7) iX5_forgetFault_6 rfl (by decide) ?_
  refine At_putI (pc' := 10) iX5_forgetFault_7 rfl f_5_15 (kdK eT (kd_2 hL)) (Or.inl rfl) (by decide) ?_
  simp only [w_X5_forgetFault] at k
  exact At_retV iX5_forgetFault_10 rfl k
def w_X5_take (h : Hp) : Hp := if (gI h 2 5) < ((gI h 3 1) - (nI 1)) then (sI (sI (sI h 2 5 ((gI h 2 5) + (nI 1))) 2 6 (gI (sI h 2 5 ((gI h 2 5) + (nI 1))) 4 ((gI (sI h 2 5 ((gI h 2 5) + (nI 1))) 2 5).toNatClampNeg))) 2 7 (gI (sI (sI h 2 5 ((gI h 2 5) + (nI 1))) 2 6 (gI (sI h 2 5 ((gI h 2 5) + (nI 1))) 4 ((gI (sI h 2 5 ((gI h 2 5) + (nI 1))) 2 5).toNatClampNeg))) 6 ((gI (sI (sI h 2 5 ((gI h 2 5) + (nI 1))) 2 6 (gI (sI h 2 5 ((gI h 2 5) + (nI 1))) 4 ((gI (sI h 2 5 ((gI h 2 5) + (nI 1))) 2 5).toNatClampNeg))) 2 5).toNatClampNeg))) else (sI (sI h 2 6 (gI h 4 ((gI h 2 5).toNatClampNeg))) 2 7 (gI (sI h 2 6 (gI h 4 ((gI h 2 5).toNatClampNeg))) 6 ((gI (sI h 2 6 (gI h 4 ((gI h 2 5).toNatClampNeg))) 2 5).toNatClampNeg)))
def p_X5_take (h : Hp) : Prop := (((gI h 2 5) < ((gI h 3 1) - (nI 1))) → ((inB (gI (sI h 2 5 ((gI h 2 5) + (nI 1))) 2 5) 401 = true) ∧ ((inB (gI (sI (sI h 2 5 ((gI h 2 5) + (nI 1))) 2 6 (gI (sI h 2 5 ((gI h 2 5) + (nI 1))) 4 ((gI (sI h 2 5 ((gI h 2 5) + (nI 1))) 2 5).toNatClampNeg))) 2 5) 401 = true) ∧ True))) ∧ (¬ ((gI h 2 5) < ((gI h 3 1) - (nI 1))) → ((inB (gI h 2 5) 401 = true) ∧ ((inB (gI (sI h 2 6 (gI h 4 ((gI h 2 5).toNatClampNeg))) 2 5) 401 = true) ∧ True)))
theorem wT_X5_take (h : Hp) : (w_X5_take h).2.2 = h.2.2 := by
  unfold w_X5_take
  repeat' split
  all_goals first | rfl | (simp only [sI_T, sJ_T, cpI_T, wT_dummy]; done)
set_option maxRecDepth 20000 in
theorem c_X5_take {d : Nat} {T : HT} (hL : Lay T) {h : Hp} (eT : h.2.2 = T)   (hp : p_X5_take h) {Q : Option Value → Hp → Prop} (k : Q none (w_X5_take h)) : Call (d + 0) MX5_take [.ref 2] h Q := by
  show At (d + 0) MX5_take 0 [.ref 2] [] h Q
  simp only [p_X5_take] at hp
  refine At_aload_n (pc' := 1) iX5_take_0 rfl rfl ?_
  refine At_getI (pc' := 4) iX5_take_1 rfl f_5_35 (kdK eT (kd_2 hL)) (by decide) ?_
  refine At_aload_n (pc' := 5) iX5_take_4 rfl rfl ?_
  refine At_getR (pc' := 8) iX5_take_5 rfl f_5_21 (kdK eT (kd_2 hL)) (by decide) (rfH eT (rf_2_2 hL)) ?_
  refine At_getI (pc' := 11) iX5_take_8 rfl f_5_64 (kdK eT (kd_3 hL)) (by decide) ?_
  refine At_iconst (v := nI 1) (pc' := 12) iX5_take_11 rfl (by decide) ?_
  refine At_isub (pc' := 13) iX5_take_12 rfl ?_
  refine At_icmp_ge (t := 26) (pc' := 16) iX5_take_13 (by decide) rfl (fun c13 => ?_) (fun c13 => ?_)
  · have hp := hp.2 c13
    refine At_aload_n (pc' := 27) iX5_take_26 rfl rfl ?_
    refine At_aload_n (pc' := 28) iX5_take_27 rfl rfl ?_
    refine At_getR (pc' := 31) iX5_take_28 rfl f_5_21 (kdK eT (kd_2 hL)) (by decide) (rfH eT (rf_2_2 hL)) ?_
    refine At_getR (pc' := 34) iX5_take_31 rfl f_5_96 (kdK eT (kd_3 hL)) (by decide) (rfH eT (rf_3_2 hL)) ?_
    refine At_aload_n (pc' := 35) iX5_take_34 rfl rfl ?_
    refine At_getI (pc' := 38) iX5_take_35 rfl f_5_35 (kdK eT (kd_2 hL)) (by decide) ?_
    obtain ⟨hp1, hp⟩ := hp
    refine At_iald (pc' := 39) iX5_take_38 rfl (kdH eT (kd_4 hL)) hp1 (show At (d + 0) MX5_take 39 [.ref 2] [.int (gI h 4 ((gI h 2 5).toNatClampNeg)), .ref 2] h Q from ?_)
    refine At_putI (pc' := 42) iX5_take_39 rfl f_5_38 (kdK eT (kd_2 hL)) (Or.inl rfl) (by decide) ?_
    refine At_aload_n (pc' := 43) iX5_take_42 rfl rfl ?_
    refine At_aload_n (pc' := 44) iX5_take_43 rfl rfl ?_
    refine At_getR (pc' := 47) iX5_take_44 rfl f_5_21 (kdK eT (kd_2 hL)) (by decide) (rfH eT (rf_2_2 hL)) ?_
    refine At_getR (pc' := 50) iX5_take_47 rfl f_5_99 (kdK eT (kd_3 hL)) (by decide) (rfH eT (rf_3_4 hL)) ?_
    refine At_aload_n (pc' := 51) iX5_take_50 rfl rfl ?_
    refine At_getI (pc' := 54) iX5_take_51 rfl f_5_35 (kdK eT (kd_2 hL)) (by decide) ?_
    obtain ⟨hp2, hp⟩ := hp
    refine At_iald (pc' := 55) iX5_take_54 rfl (kdH eT (kd_6 hL)) hp2 (show At (d + 0) MX5_take 55 [.ref 2] [.int (gI (sI h 2 6 (gI h 4 ((gI h 2 5).toNatClampNeg))) 6 ((gI (sI h 2 6 (gI h 4 ((gI h 2 5).toNatClampNeg))) 2 5).toNatClampNeg)), .ref 2] (sI h 2 6 (gI h 4 ((gI h 2 5).toNatClampNeg))) Q from ?_)
    refine At_putI (pc' := 58) iX5_take_55 rfl f_5_41 (kdK eT (kd_2 hL)) (Or.inl rfl) (by decide) ?_
    simp only [w_X5_take, if_neg c13] at k
    exact At_retV iX5_take_58 rfl k
  · have hp := hp.1 c13
    refine At_aload_n (pc' := 17) iX5_take_16 rfl rfl ?_
    refine At_dup (pc' := 18) iX5_take_17 rfl rfl ?_
    refine At_getI (pc' := 21) iX5_take_18 rfl f_5_35 (kdK eT (kd_2 hL)) (by decide) ?_
    refine At_iconst (v := nI 1) (pc' := 22) iX5_take_21 rfl (by decide) ?_
    refine At_iadd (pc' := 23) iX5_take_22 rfl ?_
    refine At_putI (pc' := 26) iX5_take_23 rfl f_5_35 (kdK eT (kd_2 hL)) (Or.inl rfl) (by decide) ?_
    refine At_aload_n (pc' := 27) iX5_take_26 rfl rfl ?_
    refine At_aload_n (pc' := 28) iX5_take_27 rfl rfl ?_
    refine At_getR (pc' := 31) iX5_take_28 rfl f_5_21 (kdK eT (kd_2 hL)) (by decide) (rfH eT (rf_2_2 hL)) ?_
    refine At_getR (pc' := 34) iX5_take_31 rfl f_5_96 (kdK eT (kd_3 hL)) (by decide) (rfH eT (rf_3_2 hL)) ?_
    refine At_aload_n (pc' := 35) iX5_take_34 rfl rfl ?_
    refine At_getI (pc' := 38) iX5_take_35 rfl f_5_35 (kdK eT (kd_2 hL)) (by decide) ?_
    obtain ⟨hp3, hp⟩ := hp
    refine At_iald (pc' := 39) iX5_take_38 rfl (kdH eT (kd_4 hL)) hp3 (show At (d + 0) MX5_take 39 [.ref 2] [.int (gI (sI h 2 5 ((gI h 2 5) + (nI 1))) 4 ((gI (sI h 2 5 ((gI h 2 5) + (nI 1))) 2 5).toNatClampNeg)), .ref 2] (sI h 2 5 ((gI h 2 5) + (nI 1))) Q from ?_)
    refine At_putI (pc' := 42) iX5_take_39 rfl f_5_38 (kdK eT (kd_2 hL)) (Or.inl rfl) (by decide) ?_
    refine At_aload_n (pc' := 43) iX5_take_42 rfl rfl ?_
    refine At_aload_n (pc' := 44) iX5_take_43 rfl rfl ?_
    refine At_getR (pc' := 47) iX5_take_44 rfl f_5_21 (kdK eT (kd_2 hL)) (by decide) (rfH eT (rf_2_2 hL)) ?_
    refine At_getR (pc' := 50) iX5_take_47 rfl f_5_99 (kdK eT (kd_3 hL)) (by decide) (rfH eT (rf_3_4 hL)) ?_
    refine At_aload_n (pc' := 51) iX5_take_50 rfl rfl ?_
    refine At_getI (pc' := 54) iX5_take_51 rfl f_5_35 (kdK eT (kd_2 hL)) (by decide) ?_
    obtain ⟨hp4, hp⟩ := hp
    refine At_iald (pc' := 55) iX5_take_54 rfl (kdH eT (kd_6 hL)) hp4 (show At (d + 0) MX5_take 55 [.ref 2] [.int (gI (sI (sI h 2 5 ((gI h 2 5) + (nI 1))) 2 6 (gI (sI h 2 5 ((gI h 2 5) + (nI 1))) 4 ((gI (sI h 2 5 ((gI h 2 5) + (nI 1))) 2 5).toNatClampNeg))) 6 ((gI (sI (sI h 2 5 ((gI h 2 5) + (nI 1))) 2 6 (gI (sI h 2 5 ((gI h 2 5) + (nI 1))) 4 ((gI (sI h 2 5 ((gI h 2 5) + (nI 1))) 2 5).toNatClampNeg))) 2 5).toNatClampNeg)), .ref 2] (sI (sI h 2 5 ((gI h 2 5) + (nI 1))) 2 6 (gI (sI h 2 5 ((gI h 2 5) + (nI 1))) 4 ((gI (sI h 2 5 ((gI h 2 5) + (nI 1))) 2 5).toNatClampNeg))) Q from ?_)
    refine At_putI (pc' := 58) iX5_take_55 rfl f_5_41 (kdK eT (kd_2 hL)) (Or.inl rfl) (by decide) ?_
    simp only [w_X5_take, if_pos c13] at k
    exact At_retV iX5_take_58 rfl k
def r_X6_get (x0 : Int64) (x2 : Int32) : Int32 := ((lushr x0 ((nI 4) * x2)).toInt32) &&& (nI 15)
set_option maxRecDepth 20000 in
theorem c_X6_get {d : Nat} {h : Hp} (x0 : Int64) (x2 : Int32)  {Q : Option Value → Hp → Prop} (k : Q (some (.int (r_X6_get x0 x2))) h) : Call (d + 0) MX6_get [.long x0, .int x2] h Q := by
  show At (d + 0) MX6_get 0 [.long x0, un, .int x2] [] h Q
  refine At_lload_n (pc' := 1) iX6_get_0 rfl rfl ?_
  refine At_iconst (v := nI 4) (pc' := 2) iX6_get_1 rfl (by decide) ?_
  refine At_iload_n (pc' := 3) iX6_get_2 rfl rfl ?_
  refine At_imul (pc' := 4) iX6_get_3 rfl ?_
  refine At_lushr (pc' := 5) iX6_get_4 rfl ?_
  refine At_l2i (pc' := 6) iX6_get_5 rfl ?_
  refine At_bipush (v := nI 15) (pc' := 8) iX6_get_6 rfl (by decide) ?_
  refine At_iand (pc' := 9) iX6_get_8 rfl ?_
  simp only [r_X6_get] at k
  exact At_retI iX6_get_9 rfl k
def r_X6_lowest (x0 : Int32) : Int64 := if x0 < (nI 16) then (lshl (1 : Int64) ((nI 4) * x0)) - (1 : Int64) else (-1 : Int64)
set_option maxRecDepth 20000 in
theorem c_X6_lowest {d : Nat} {h : Hp} (x0 : Int32)  {Q : Option Value → Hp → Prop} (k : Q (some (.long (r_X6_lowest x0))) h) : Call (d + 0) MX6_lowest [.int x0] h Q := by
  show At (d + 0) MX6_lowest 0 [.int x0] [] h Q
  refine At_iload_n (pc' := 1) iX6_lowest_0 rfl rfl ?_
  refine At_bipush (v := nI 16) (pc' := 3) iX6_lowest_1 rfl (by decide) ?_
  refine At_icmp_lt (t := 12) (pc' := 6) iX6_lowest_3 (by decide) rfl (fun c3 => ?_) (fun c3 => ?_)
  · refine At_lconst (v := 1) (pc' := 13) iX6_lowest_12 rfl (by decide) ?_
    refine At_iconst (v := nI 4) (pc' := 14) iX6_lowest_13 rfl (by decide) ?_
    refine At_iload_n (pc' := 15) iX6_lowest_14 rfl rfl ?_
    refine At_imul (pc' := 16) iX6_lowest_15 rfl ?_
    refine At_lshl (pc' := 17) iX6_lowest_16 rfl ?_
    refine At_lconst (v := 1) (pc' := 18) iX6_lowest_17 rfl (by decide) ?_
    refine At_lsub (pc' := 19) iX6_lowest_18 rfl ?_
    simp only [r_X6_lowest, if_pos c3] at k
    exact At_retJ iX6_lowest_19 rfl k
  · refine At_ldc2 (v := (-1 : Int64)) (pc' := 9) iX6_lowest_6 rfl rfl ?_
    refine At_goto (t := 19) iX6_lowest_9 (by decide) ?_
    simp only [r_X6_lowest, if_neg c3] at k
    exact At_retJ iX6_lowest_19 rfl k
def r_X6_with (x0 : Int64) (x2 : Int32) (x3 : Int32) : Int64 := (x0 &&& ((lshl (15 : Int64) ((nI 4) * x2)) ^^^ (-1 : Int64))) ||| (lshl x3.toInt64 ((nI 4) * x2))
set_option maxRecDepth 20000 in
theorem c_X6_with {d : Nat} {h : Hp} (x0 : Int64) (x2 : Int32) (x3 : Int32)  {Q : Option Value → Hp → Prop} (k : Q (some (.long (r_X6_with x0 x2 x3))) h) : Call (d + 0) MX6_with [.long x0, .int x2, .int x3] h Q := by
  show At (d + 0) MX6_with 0 [.long x0, un, .int x2, .int x3, un, un] [] h Q
  refine At_lload_n (pc' := 1) iX6_with_0 rfl rfl ?_
  refine At_ldc2 (v := (15 : Int64)) (pc' := 4) iX6_with_1 rfl rfl ?_
  refine At_iconst (v := nI 4) (pc' := 5) iX6_with_4 rfl (by decide) ?_
  refine At_iload_n (pc' := 6) iX6_with_5 rfl rfl ?_
  refine At_imul (pc' := 7) iX6_with_6 rfl ?_
  refine At_lshl (pc' := 8) iX6_with_7 rfl ?_
  refine At_ldc2 (v := (-1 : Int64)) (pc' := 11) iX6_with_8 rfl rfl ?_
  refine At_lxor (pc' := 12) iX6_with_11 rfl ?_
  refine At_land (pc' := 13) iX6_with_12 rfl ?_
  refine At_lstore (L' := [.long x0, un, .int x2, .int x3, .long (x0 &&& ((lshl (15 : Int64) ((nI 4) * x2)) ^^^ (-1 : Int64))), un]) (pc' := 15) iX6_with_13 rfl (Nat.le_of_ble_eq_true rfl) rfl ?_
  refine At_lload (pc' := 17) iX6_with_15 rfl rfl ?_
  refine At_iload_n (pc' := 18) iX6_with_17 rfl rfl ?_
  refine At_i2l (pc' := 19) iX6_with_18 rfl ?_
  refine At_iconst (v := nI 4) (pc' := 20) iX6_with_19 rfl (by decide) ?_
  refine At_iload_n (pc' := 21) iX6_with_20 rfl rfl ?_
  refine At_imul (pc' := 22) iX6_with_21 rfl ?_
  refine At_lshl (pc' := 23) iX6_with_22 rfl ?_
  refine At_lor (pc' := 24) iX6_with_23 rfl ?_
  simp only [r_X6_with] at k
  exact At_retJ iX6_with_24 rfl k
def r_X7_add (a : Nat) (x1 : Int32) (h : Hp) : Bool := if (gI h a 0) < (nI 200) then true else false
def w_X7_add (a : Nat) (x1 : Int32) (h : Hp) : Hp := if (gI h a 0) < (nI 200) then (sI (sI h (a + 1) ((gI h a 0).toNatClampNeg) x1) a 0 ((gI (sI h (a + 1) ((gI h a 0).toNatClampNeg) x1) a 0) + (nI 1))) else h
def p_X7_add (a : Nat) (x1 : Int32) (h : Hp) : Prop := (((gI h a 0) < (nI 200)) → ((inB (gI h a 0) 200 = true) ∧ True)) ∧ (¬ ((gI h a 0) < (nI 200)) → True)
theorem wT_X7_add (a : Nat) (x1 : Int32) (h : Hp) : (w_X7_add a x1 h).2.2 = h.2.2 := by
  unfold w_X7_add
  repeat' split
  all_goals first | rfl | (simp only [sI_T, sJ_T, cpI_T, wT_dummy]; done)
set_option maxRecDepth 20000 in
theorem c_X7_add {d : Nat} {T : HT} (hL : Lay T) {h : Hp} (eT : h.2.2 = T) (a : Nat) (x1 : Int32) (hA : IsX7 T a) (hp : p_X7_add a x1 h) {Q : Option Value → Hp → Prop} (k : Q (some (.int (b2i (r_X7_add a x1 h)))) (w_X7_add a x1 h)) : Call (d + 0) MX7_add [.ref a, .int x1] h Q := by
  show At (d + 0) MX7_add 0 [.ref a, .int x1] [] h Q
  simp only [p_X7_add] at hp
  refine At_aload_n (pc' := 1) iX7_add_0 rfl rfl ?_
  refine At_getI (pc' := 4) iX7_add_1 rfl f_7_9 (kdK eT (X7_k0 hA)) (by decide) ?_
  refine At_sipush (v := nI 200) (pc' := 7) iX7_add_4 rfl (by decide) ?_
  refine At_icmp_lt (t := 12) (pc' := 10) iX7_add_7 (by decide) rfl (fun c7 => ?_) (fun c7 => ?_)
  · have hp := hp.1 c7
    refine At_aload_n (pc' := 13) iX7_add_12 rfl rfl ?_
    refine At_getR (pc' := 16) iX7_add_13 rfl f_7_15 (kdK eT (X7_k0 hA)) (by decide) (rfH eT (X7_r1 hA)) ?_
    refine At_aload_n (pc' := 17) iX7_add_16 rfl rfl ?_
    refine At_getI (pc' := 20) iX7_add_17 rfl f_7_9 (kdK eT (X7_k0 hA)) (by decide) ?_
    refine At_iload_n (pc' := 21) iX7_add_20 rfl rfl ?_
    obtain ⟨hp1, hp⟩ := hp
    refine At_iast (pc' := 22) iX7_add_21 rfl (kdH eT (X7_k1 hA)) hp1 (show At (d + 0) MX7_add 22 [.ref a, .int x1] [] (sI h (a + 1) ((gI h a 0).toNatClampNeg) x1) Q from ?_)
    refine At_aload_n (pc' := 23) iX7_add_22 rfl rfl ?_
    refine At_dup (pc' := 24) iX7_add_23 rfl rfl ?_
    refine At_getI (pc' := 27) iX7_add_24 rfl f_7_9 (kdK eT (X7_k0 hA)) (by decide) ?_
    refine At_iconst (v := nI 1) (pc' := 28) iX7_add_27 rfl (by decide) ?_
    refine At_iadd (pc' := 29) iX7_add_28 rfl ?_
    refine At_putI (pc' := 32) iX7_add_29 rfl f_7_9 (kdK eT (X7_k0 hA)) (Or.inl rfl) (by decide) ?_
    refine At_iconst (v := nI 1) (pc' := 33) iX7_add_32 rfl (by decide) ?_
    simp only [r_X7_add, w_X7_add, if_pos c7] at k
    exact At_retT iX7_add_33 rfl k
  · have hp := hp.2 c7
    refine At_iconst (v := nI 0) (pc' := 11) iX7_add_10 rfl (by decide) ?_
    simp only [r_X7_add, w_X7_add, if_neg c7] at k
    exact At_retF iX7_add_11 rfl k
def w_X7_copy (a : Nat) (x1 : Nat) (h : Hp) : Hp := cpI (sI h a 0 (gI h x1 0)) (x1 + 1) 0 (a + 1) 0 ((gI (sI h a 0 (gI h x1 0)) x1 0).toNatClampNeg)
def p_X7_copy (a : Nat) (x1 : Nat) (h : Hp) : Prop := (¬ (nI 0) < 0 ∧ ¬ (nI 0) < 0 ∧ ¬ (gI (sI h a 0 (gI h x1 0)) x1 0) < 0 ∧ (nI 0).toNatClampNeg + (gI (sI h a 0 (gI h x1 0)) x1 0).toNatClampNeg ≤ 200 ∧ (nI 0).toNatClampNeg + (gI (sI h a 0 (gI h x1 0)) x1 0).toNatClampNeg ≤ 200) ∧ True
theorem wT_X7_copy (a : Nat) (x1 : Nat) (h : Hp) : (w_X7_copy a x1 h).2.2 = h.2.2 := by
  unfold w_X7_copy
  repeat' split
  all_goals first | rfl | (simp only [sI_T, sJ_T, cpI_T, wT_dummy]; done)
set_option maxRecDepth 20000 in
theorem c_X7_copy {d : Nat} {T : HT} (hL : Lay T) {h : Hp} (eT : h.2.2 = T) (a : Nat) (x1 : Nat) (hA : IsX7 T a) (hA1 : IsX7 T x1) (hp : p_X7_copy a x1 h) {Q : Option Value → Hp → Prop} (k : Q none (w_X7_copy a x1 h)) : Call (d + 0) MX7_copy [.ref a, .ref x1] h Q := by
  show At (d + 0) MX7_copy 0 [.ref a, .ref x1] [] h Q
  simp only [p_X7_copy] at hp
  refine At_aload_n (pc' := 1) iX7_copy_0 rfl rfl ?_
  refine At_aload_n (pc' := 2) iX7_copy_1 rfl rfl ?_
  refine At_getI (pc' := 5) iX7_copy_2 rfl f_7_9 (kdK eT (X7_k0 hA1)) (by decide) ?_
  refine At_putI (pc' := 8) iX7_copy_5 rfl f_7_9 (kdK eT (X7_k0 hA)) (Or.inl rfl) (by decide) ?_
  refine At_aload_n (pc' := 9) iX7_copy_8 rfl rfl ?_
  refine At_getR (pc' := 12) iX7_copy_9 rfl f_7_15 (kdK eT (X7_k0 hA1)) (by decide) (rfH eT (X7_r1 hA1)) ?_
  refine At_iconst (v := nI 0) (pc' := 13) iX7_copy_12 rfl (by decide) ?_
  refine At_aload_n (pc' := 14) iX7_copy_13 rfl rfl ?_
  refine At_getR (pc' := 17) iX7_copy_14 rfl f_7_15 (kdK eT (X7_k0 hA)) (by decide) (rfH eT (X7_r1 hA)) ?_
  refine At_iconst (v := nI 0) (pc' := 18) iX7_copy_17 rfl (by decide) ?_
  refine At_aload_n (pc' := 19) iX7_copy_18 rfl rfl ?_
  refine At_getI (pc' := 22) iX7_copy_19 rfl f_7_9 (kdK eT (X7_k0 hA1)) (by decide) ?_
  obtain ⟨hp1, hp⟩ := hp
  refine At_copy (pc' := 25) iX7_copy_22 rfl m_7_19 (Nat.le_of_ble_eq_true rfl) (kdH eT (X7_k1 hA1)) (kdH eT (X7_k1 hA)) hp1 (show At (d + 0) MX7_copy 25 [.ref a, .ref x1] [] (cpI (sI h a 0 (gI h x1 0)) (x1 + 1) 0 (a + 1) 0 ((gI (sI h a 0 (gI h x1 0)) x1 0).toNatClampNeg)) Q from ?_)
  simp only [w_X7_copy] at k
  exact At_retV iX7_copy_25 rfl k
def r_X8_rowPart (a : Nat) (x1 : Int32) (x2 : Int32) (h : Hp) : Int32 := if x2 = 0 then (gI h (a + 6) x1.toNatClampNeg) &&& (nI 15) else (gI h (a + 6) x1.toNatClampNeg) >>> ((nI 4) &&& 31)
def p_X8_rowPart (a : Nat) (x1 : Int32) (x2 : Int32) (h : Hp) : Prop := ((x2 = 0) → ((inB x1 300 = true) ∧ True)) ∧ (¬ (x2 = 0) → ((inB x1 300 = true) ∧ True))
set_option maxRecDepth 20000 in
theorem c_X8_rowPart {d : Nat} {T : HT} (hL : Lay T) {h : Hp} (eT : h.2.2 = T) (a : Nat) (x1 : Int32) (x2 : Int32) (hA : IsX8 T a) (hp : p_X8_rowPart a x1 x2 h) {Q : Option Value → Hp → Prop} (k : Q (some (.int (r_X8_rowPart a x1 x2 h))) h) : Call (d + 0) MX8_rowPart [.ref a, .int x1, .int x2] h Q := by
  show At (d + 0) MX8_rowPart 0 [.ref a, .int x1, .int x2] [] h Q
  simp only [p_X8_rowPart] at hp
  refine At_iload_n (pc' := 1) iX8_rowPart_0 rfl rfl ?_
  refine At_if_ne (t := 16) (pc' := 4) iX8_rowPart_1 (by decide) rfl (fun c1 => ?_) (fun c1 => ?_)
  · have hp := hp.2 c1
    refine At_aload_n (pc' := 17) iX8_rowPart_16 rfl rfl ?_
    refine At_getR (pc' := 20) iX8_rowPart_17 rfl f_8_42 (kdK eT (X8_k0 hA)) (by decide) (rfH eT (X8_r7 hA)) ?_
    refine At_iload_n (pc' := 21) iX8_rowPart_20 rfl rfl ?_
    obtain ⟨hp1, hp⟩ := hp
    refine At_iald (pc' := 22) iX8_rowPart_21 rfl (kdH eT (X8_k6 hA)) hp1 (show At (d + 0) MX8_rowPart 22 [.ref a, .int x1, .int x2] [.int (gI h (a + 6) x1.toNatClampNeg)] h Q from ?_)
    refine At_iconst (v := nI 4) (pc' := 23) iX8_rowPart_22 rfl (by decide) ?_
    refine At_ishr (pc' := 24) iX8_rowPart_23 rfl ?_
    simp only [r_X8_rowPart, if_neg c1] at k
    exact At_retI iX8_rowPart_24 rfl k
  · have hp := hp.1 c1
    refine At_aload_n (pc' := 5) iX8_rowPart_4 rfl rfl ?_
    refine At_getR (pc' := 8) iX8_rowPart_5 rfl f_8_42 (kdK eT (X8_k0 hA)) (by decide) (rfH eT (X8_r7 hA)) ?_
    refine At_iload_n (pc' := 9) iX8_rowPart_8 rfl rfl ?_
    obtain ⟨hp2, hp⟩ := hp
    refine At_iald (pc' := 10) iX8_rowPart_9 rfl (kdH eT (X8_k6 hA)) hp2 (show At (d + 0) MX8_rowPart 10 [.ref a, .int x1, .int x2] [.int (gI h (a + 6) x1.toNatClampNeg)] h Q from ?_)
    refine At_bipush (v := nI 15) (pc' := 12) iX8_rowPart_10 rfl (by decide) ?_
    refine At_iand (pc' := 13) iX8_rowPart_12 rfl ?_
    refine At_goto (t := 24) iX8_rowPart_13 (by decide) ?_
    simp only [r_X8_rowPart, if_pos c1] at k
    exact At_retI iX8_rowPart_24 rfl k
def w_X9_addToken (x1 : Int32) (x2 : Int32) (x3 : Int32) (h : Hp) : Hp := if (nI 400) < (gI h 3 1) then h else (sI (sI (sI (sI h 4 ((gI h 3 1).toNatClampNeg) x1) 5 ((gI (sI h 4 ((gI h 3 1).toNatClampNeg) x1) 3 1).toNatClampNeg) x2) 6 ((gI (sI (sI h 4 ((gI h 3 1).toNatClampNeg) x1) 5 ((gI (sI h 4 ((gI h 3 1).toNatClampNeg) x1) 3 1).toNatClampNeg) x2) 3 1).toNatClampNeg) x3) 3 1 ((gI (sI (sI (sI h 4 ((gI h 3 1).toNatClampNeg) x1) 5 ((gI (sI h 4 ((gI h 3 1).toNatClampNeg) x1) 3 1).toNatClampNeg) x2) 6 ((gI (sI (sI h 4 ((gI h 3 1).toNatClampNeg) x1) 5 ((gI (sI h 4 ((gI h 3 1).toNatClampNeg) x1) 3 1).toNatClampNeg) x2) 3 1).toNatClampNeg) x3) 3 1) + (nI 1)))
def p_X9_addToken (x1 : Int32) (x2 : Int32) (x3 : Int32) (h : Hp) : Prop := (((nI 400) < (gI h 3 1)) → True) ∧ (¬ ((nI 400) < (gI h 3 1)) → ((inB (gI h 3 1) 401 = true) ∧ ((inB (gI (sI h 4 ((gI h 3 1).toNatClampNeg) x1) 3 1) 401 = true) ∧ ((inB (gI (sI (sI h 4 ((gI h 3 1).toNatClampNeg) x1) 5 ((gI (sI h 4 ((gI h 3 1).toNatClampNeg) x1) 3 1).toNatClampNeg) x2) 3 1) 401 = true) ∧ True))))
theorem wT_X9_addToken (x1 : Int32) (x2 : Int32) (x3 : Int32) (h : Hp) : (w_X9_addToken x1 x2 x3 h).2.2 = h.2.2 := by
  unfold w_X9_addToken
  repeat' split
  all_goals first | rfl | (simp only [sI_T, sJ_T, cpI_T, wT_dummy]; done)
set_option maxRecDepth 20000 in
theorem c_X9_addToken {d : Nat} {T : HT} (hL : Lay T) {h : Hp} (eT : h.2.2 = T) (x1 : Int32) (x2 : Int32) (x3 : Int32)  (hp : p_X9_addToken x1 x2 x3 h) {Q : Option Value → Hp → Prop} (k : Q none (w_X9_addToken x1 x2 x3 h)) : Call (d + 0) MX9_addToken [.ref 3, .int x1, .int x2, .int x3] h Q := by
  show At (d + 0) MX9_addToken 0 [.ref 3, .int x1, .int x2, .int x3] [] h Q
  simp only [p_X9_addToken] at hp
  refine At_aload_n (pc' := 1) iX9_addToken_0 rfl rfl ?_
  refine At_getI (pc' := 4) iX9_addToken_1 rfl f_9_15 (kdK eT (kd_3 hL)) (by decide) ?_
  refine At_sipush (v := nI 400) (pc' := 7) iX9_addToken_4 rfl (by decide) ?_
  refine At_icmp_gt (t := 50) (pc' := 10) iX9_addToken_7 (by decide) rfl (fun c7 => ?_) (fun c7 => ?_)
  · have hp := hp.1 c7
    simp only [w_X9_addToken, if_pos c7] at k
    exact At_retV iX9_addToken_50 rfl k
  · have hp := hp.2 c7
    refine At_aload_n (pc' := 11) iX9_addToken_10 rfl rfl ?_
    refine At_getR (pc' := 14) iX9_addToken_11 rfl f_9_18 (kdK eT (kd_3 hL)) (by decide) (rfH eT (rf_3_2 hL)) ?_
    refine At_aload_n (pc' := 15) iX9_addToken_14 rfl rfl ?_
    refine At_getI (pc' := 18) iX9_addToken_15 rfl f_9_15 (kdK eT (kd_3 hL)) (by decide) ?_
    refine At_iload_n (pc' := 19) iX9_addToken_18 rfl rfl ?_
    obtain ⟨hp1, hp⟩ := hp
    refine At_iast (pc' := 20) iX9_addToken_19 rfl (kdH eT (kd_4 hL)) hp1 (show At (d + 0) MX9_addToken 20 [.ref 3, .int x1, .int x2, .int x3] [] (sI h 4 ((gI h 3 1).toNatClampNeg) x1) Q from ?_)
    refine At_aload_n (pc' := 21) iX9_addToken_20 rfl rfl ?_
    refine At_getR (pc' := 24) iX9_addToken_21 rfl f_9_22 (kdK eT (kd_3 hL)) (by decide) (rfH eT (rf_3_3 hL)) ?_
    refine At_aload_n (pc' := 25) iX9_addToken_24 rfl rfl ?_
    refine At_getI (pc' := 28) iX9_addToken_25 rfl f_9_15 (kdK eT (kd_3 hL)) (by decide) ?_
    refine At_iload_n (pc' := 29) iX9_addToken_28 rfl rfl ?_
    obtain ⟨hp2, hp⟩ := hp
    refine At_iast (pc' := 30) iX9_addToken_29 rfl (kdH eT (kd_5 hL)) hp2 (show At (d + 0) MX9_addToken 30 [.ref 3, .int x1, .int x2, .int x3] [] (sI (sI h 4 ((gI h 3 1).toNatClampNeg) x1) 5 ((gI (sI h 4 ((gI h 3 1).toNatClampNeg) x1) 3 1).toNatClampNeg) x2) Q from ?_)
    refine At_aload_n (pc' := 31) iX9_addToken_30 rfl rfl ?_
    refine At_getR (pc' := 34) iX9_addToken_31 rfl f_9_25 (kdK eT (kd_3 hL)) (by decide) (rfH eT (rf_3_4 hL)) ?_
    refine At_aload_n (pc' := 35) iX9_addToken_34 rfl rfl ?_
    refine At_getI (pc' := 38) iX9_addToken_35 rfl f_9_15 (kdK eT (kd_3 hL)) (by decide) ?_
    refine At_iload_n (pc' := 39) iX9_addToken_38 rfl rfl ?_
    obtain ⟨hp3, hp⟩ := hp
    refine At_iast (pc' := 40) iX9_addToken_39 rfl (kdH eT (kd_6 hL)) hp3 (show At (d + 0) MX9_addToken 40 [.ref 3, .int x1, .int x2, .int x3] [] (sI (sI (sI h 4 ((gI h 3 1).toNatClampNeg) x1) 5 ((gI (sI h 4 ((gI h 3 1).toNatClampNeg) x1) 3 1).toNatClampNeg) x2) 6 ((gI (sI (sI h 4 ((gI h 3 1).toNatClampNeg) x1) 5 ((gI (sI h 4 ((gI h 3 1).toNatClampNeg) x1) 3 1).toNatClampNeg) x2) 3 1).toNatClampNeg) x3) Q from ?_)
    refine At_aload_n (pc' := 41) iX9_addToken_40 rfl rfl ?_
    refine At_dup (pc' := 42) iX9_addToken_41 rfl rfl ?_
    refine At_getI (pc' := 45) iX9_addToken_42 rfl f_9_15 (kdK eT (kd_3 hL)) (by decide) ?_
    refine At_iconst (v := nI 1) (pc' := 46) iX9_addToken_45 rfl (by decide) ?_
    refine At_iadd (pc' := 47) iX9_addToken_46 rfl ?_
    refine At_putI (pc' := 50) iX9_addToken_47 rfl f_9_15 (kdK eT (kd_3 hL)) (Or.inl rfl) (by decide) ?_
    simp only [w_X9_addToken, if_neg c7] at k
    exact At_retV iX9_addToken_50 rfl k
def r_X9_isBlank (x0 : Int32) : Bool := if x0 = (nI 32) then true else (if x0 = (nI 10) then true else false)
set_option maxRecDepth 20000 in
theorem c_X9_isBlank {d : Nat} {h : Hp} (x0 : Int32)  {Q : Option Value → Hp → Prop} (k : Q (some (.int (b2i (r_X9_isBlank x0)))) h) : Call (d + 0) MX9_isBlank [.int x0] h Q := by
  show At (d + 0) MX9_isBlank 0 [.int x0] [] h Q
  refine At_iload_n (pc' := 1) iX9_isBlank_0 rfl rfl ?_
  refine At_bipush (v := nI 32) (pc' := 3) iX9_isBlank_1 rfl (by decide) ?_
  refine At_icmp_eq (t := 12) (pc' := 6) iX9_isBlank_3 (by decide) rfl (fun c3 => ?_) (fun c3 => ?_)
  · refine At_iconst (v := nI 1) (pc' := 13) iX9_isBlank_12 rfl (by decide) ?_
    refine At_goto (t := 17) iX9_isBlank_13 (by decide) ?_
    simp only [r_X9_isBlank, if_pos c3] at k
    exact At_retT iX9_isBlank_17 rfl k
  · refine At_iload_n (pc' := 7) iX9_isBlank_6 rfl rfl ?_
    refine At_bipush (v := nI 10) (pc' := 9) iX9_isBlank_7 rfl (by decide) ?_
    refine At_icmp_ne (t := 16) (pc' := 12) iX9_isBlank_9 (by decide) rfl (fun c9 => ?_) (fun c9 => ?_)
    · refine At_iconst (v := nI 0) (pc' := 17) iX9_isBlank_16 rfl (by decide) ?_
      simp only [r_X9_isBlank, if_neg c3, if_neg c9] at k
      exact At_retF iX9_isBlank_17 rfl k
    · refine At_iconst (v := nI 1) (pc' := 13) iX9_isBlank_12 rfl (by decide) ?_
      refine At_goto (t := 17) iX9_isBlank_13 (by decide) ?_
      simp only [r_X9_isBlank, if_neg c3, if_pos c9] at k
      exact At_retT iX9_isBlank_17 rfl k
def r_X9_isDigit (x0 : Int32) : Bool := if x0 < (nI 48) then false else (if (nI 57) < x0 then false else true)
set_option maxRecDepth 20000 in
theorem c_X9_isDigit {d : Nat} {h : Hp} (x0 : Int32)  {Q : Option Value → Hp → Prop} (k : Q (some (.int (b2i (r_X9_isDigit x0)))) h) : Call (d + 0) MX9_isDigit [.int x0] h Q := by
  show At (d + 0) MX9_isDigit 0 [.int x0] [] h Q
  refine At_iload_n (pc' := 1) iX9_isDigit_0 rfl rfl ?_
  refine At_bipush (v := nI 48) (pc' := 3) iX9_isDigit_1 rfl (by decide) ?_
  refine At_icmp_lt (t := 16) (pc' := 6) iX9_isDigit_3 (by decide) rfl (fun c3 => ?_) (fun c3 => ?_)
  · refine At_iconst (v := nI 0) (pc' := 17) iX9_isDigit_16 rfl (by decide) ?_
    simp only [r_X9_isDigit, if_pos c3] at k
    exact At_retF iX9_isDigit_17 rfl k
  · refine At_iload_n (pc' := 7) iX9_isDigit_6 rfl rfl ?_
    refine At_bipush (v := nI 57) (pc' := 9) iX9_isDigit_7 rfl (by decide) ?_
    refine At_icmp_gt (t := 16) (pc' := 12) iX9_isDigit_9 (by decide) rfl (fun c9 => ?_) (fun c9 => ?_)
    · refine At_iconst (v := nI 0) (pc' := 17) iX9_isDigit_16 rfl (by decide) ?_
      simp only [r_X9_isDigit, if_neg c3, if_pos c9] at k
      exact At_retF iX9_isDigit_17 rfl k
    · refine At_iconst (v := nI 1) (pc' := 13) iX9_isDigit_12 rfl (by decide) ?_
      refine At_goto (t := 17) iX9_isDigit_13 (by decide) ?_
      simp only [r_X9_isDigit, if_neg c3, if_neg c9] at k
      exact At_retT iX9_isDigit_17 rfl k
def r_X9_isLetter (x0 : Int32) : Bool := if x0 < (nI 97) then (if x0 < (nI 65) then false else (if (nI 90) < x0 then false else true)) else (if (nI 122) < x0 then (if x0 < (nI 65) then false else (if (nI 90) < x0 then false else true)) else true)
set_option maxRecDepth 20000 in
theorem c_X9_isLetter {d : Nat} {h : Hp} (x0 : Int32)  {Q : Option Value → Hp → Prop} (k : Q (some (.int (b2i (r_X9_isLetter x0)))) h) : Call (d + 0) MX9_isLetter [.int x0] h Q := by
  show At (d + 0) MX9_isLetter 0 [.int x0] [] h Q
  refine At_iload_n (pc' := 1) iX9_isLetter_0 rfl rfl ?_
  refine At_bipush (v := nI 97) (pc' := 3) iX9_isLetter_1 rfl (by decide) ?_
  refine At_icmp_lt (t := 12) (pc' := 6) iX9_isLetter_3 (by decide) rfl (fun c3 => ?_) (fun c3 => ?_)
  · refine At_iload_n (pc' := 13) iX9_isLetter_12 rfl rfl ?_
    refine At_bipush (v := nI 65) (pc' := 15) iX9_isLetter_13 rfl (by decide) ?_
    refine At_icmp_lt (t := 28) (pc' := 18) iX9_isLetter_15 (by decide) rfl (fun c15 => ?_) (fun c15 => ?_)
    · refine At_iconst (v := nI 0) (pc' := 29) iX9_isLetter_28 rfl (by decide) ?_
      simp only [r_X9_isLetter, if_pos c3, if_pos c15] at k
      exact At_retF iX9_isLetter_29 rfl k
    · refine At_iload_n (pc' := 19) iX9_isLetter_18 rfl rfl ?_
      refine At_bipush (v := nI 90) (pc' := 21) iX9_isLetter_19 rfl (by decide) ?_
      refine At_icmp_gt (t := 28) (pc' := 24) iX9_isLetter_21 (by decide) rfl (fun c21 => ?_) (fun c21 => ?_)
      · refine At_iconst (v := nI 0) (pc' := 29) iX9_isLetter_28 rfl (by decide) ?_
        simp only [r_X9_isLetter, if_pos c3, if_neg c15, if_pos c21] at k
        exact At_retF iX9_isLetter_29 rfl k
      · refine At_iconst (v := nI 1) (pc' := 25) iX9_isLetter_24 rfl (by decide) ?_
        refine At_goto (t := 29) iX9_isLetter_25 (by decide) ?_
        simp only [r_X9_isLetter, if_pos c3, if_neg c15, if_neg c21] at k
        exact At_retT iX9_isLetter_29 rfl k
  · refine At_iload_n (pc' := 7) iX9_isLetter_6 rfl rfl ?_
    refine At_bipush (v := nI 122) (pc' := 9) iX9_isLetter_7 rfl (by decide) ?_
    refine At_icmp_le (t := 24) (pc' := 12) iX9_isLetter_9 (by decide) rfl (fun c9 => ?_) (fun c9 => ?_)
    · refine At_iconst (v := nI 1) (pc' := 25) iX9_isLetter_24 rfl (by decide) ?_
      refine At_goto (t := 29) iX9_isLetter_25 (by decide) ?_
      simp only [r_X9_isLetter, if_neg c3, if_neg c9] at k
      exact At_retT iX9_isLetter_29 rfl k
    · refine At_iload_n (pc' := 13) iX9_isLetter_12 rfl rfl ?_
      refine At_bipush (v := nI 65) (pc' := 15) iX9_isLetter_13 rfl (by decide) ?_
      refine At_icmp_lt (t := 28) (pc' := 18) iX9_isLetter_15 (by decide) rfl (fun c15 => ?_) (fun c15 => ?_)
      · refine At_iconst (v := nI 0) (pc' := 29) iX9_isLetter_28 rfl (by decide) ?_
        simp only [r_X9_isLetter, if_neg c3, if_pos c9, if_pos c15] at k
        exact At_retF iX9_isLetter_29 rfl k
      · refine At_iload_n (pc' := 19) iX9_isLetter_18 rfl rfl ?_
        refine At_bipush (v := nI 90) (pc' := 21) iX9_isLetter_19 rfl (by decide) ?_
        refine At_icmp_gt (t := 28) (pc' := 24) iX9_isLetter_21 (by decide) rfl (fun c21 => ?_) (fun c21 => ?_)
        · refine At_iconst (v := nI 0) (pc' := 29) iX9_isLetter_28 rfl (by decide) ?_
          simp only [r_X9_isLetter, if_neg c3, if_pos c9, if_neg c15, if_pos c21] at k
          exact At_retF iX9_isLetter_29 rfl k
        · refine At_iconst (v := nI 1) (pc' := 25) iX9_isLetter_24 rfl (by decide) ?_
          refine At_goto (t := 29) iX9_isLetter_25 (by decide) ?_
          simp only [r_X9_isLetter, if_neg c3, if_pos c9, if_neg c15, if_neg c21] at k
          exact At_retT iX9_isLetter_29 rfl k
def r_X10_end (x1 : Int32) (h : Hp) : Bool := if x1 < 0 then false else (if (gI h 3 0) < x1 then false else true)
def w_X10_end (x1 : Int32) (h : Hp) : Hp := if x1 < 0 then h else (if (gI h 3 0) < x1 then h else (sI h 3 0 x1))
theorem wT_X10_end (x1 : Int32) (h : Hp) : (w_X10_end x1 h).2.2 = h.2.2 := by
  unfold w_X10_end
  repeat' split
  all_goals first | rfl | (simp only [sI_T, sJ_T, cpI_T, wT_dummy]; done)
set_option maxRecDepth 20000 in
theorem c_X10_end {d : Nat} {T : HT} (hL : Lay T) {h : Hp} (eT : h.2.2 = T) (x1 : Int32)  {Q : Option Value → Hp → Prop} (k : Q (some (.int (b2i (r_X10_end x1 h)))) (w_X10_end x1 h)) : Call (d + 0) MX10_end [.ref 1, .int x1] h Q := by
  show At (d + 0) MX10_end 0 [.ref 1, .int x1] [] h Q
  refine At_iload_n (pc' := 1) iX10_end_0 rfl rfl ?_
  refine At_if_lt (t := 18) (pc' := 4) iX10_end_1 (by decide) rfl (fun c1 => ?_) (fun c1 => ?_)
  · refine At_iconst (v := nI 0) (pc' := 19) iX10_end_18 rfl (by decide) ?_
    simp only [r_X10_end, w_X10_end, if_pos c1] at k
    exact At_retF iX10_end_19 rfl k
  · refine At_iload_n (pc' := 5) iX10_end_4 rfl rfl ?_
    refine At_aload_n (pc' := 6) iX10_end_5 rfl rfl ?_
    refine At_getR (pc' := 9) iX10_end_6 rfl f_10_10 (kdK eT (kd_1 hL)) (by decide) (rfH eT (rf_1_0 hL)) ?_
    refine At_getR (pc' := 12) iX10_end_9 rfl f_10_91 (kdK eT (kd_2 hL)) (by decide) (rfH eT (rf_2_2 hL)) ?_
    refine At_getI (pc' := 15) iX10_end_12 rfl f_10_95 (kdK eT (kd_3 hL)) (by decide) ?_
    refine At_icmp_le (t := 20) (pc' := 18) iX10_end_15 (by decide) rfl (fun c15 => ?_) (fun c15 => ?_)
    · refine At_aload_n (pc' := 21) iX10_end_20 rfl rfl ?_
      refine At_getR (pc' := 24) iX10_end_21 rfl f_10_10 (kdK eT (kd_1 hL)) (by decide) (rfH eT (rf_1_0 hL)) ?_
      refine At_getR (pc' := 27) iX10_end_24 rfl f_10_91 (kdK eT (kd_2 hL)) (by decide) (rfH eT (rf_2_2 hL)) ?_
      refine At_iload_n (pc' := 28) iX10_end_27 rfl rfl ?_
      refine At_putI (pc' := 31) iX10_end_28 rfl f_10_95 (kdK eT (kd_3 hL)) (Or.inl rfl) (by decide) ?_
      refine At_iconst (v := nI 1) (pc' := 32) iX10_end_31 rfl (by decide) ?_
      simp only [r_X10_end, w_X10_end, if_neg c1, if_neg c15] at k
      exact At_retT iX10_end_32 rfl k
    · refine At_iconst (v := nI 0) (pc' := 19) iX10_end_18 rfl (by decide) ?_
      simp only [r_X10_end, w_X10_end, if_neg c1, if_pos c15] at k
      exact At_retF iX10_end_19 rfl k
def r_X10_fault (x1 : Int32) (h : Hp) : Int32 := if x1 = 0 then gI h 2 0 else (if x1 = (nI 1) then gI h 2 1 else (-1))
set_option maxRecDepth 20000 in
theorem c_X10_fault {d : Nat} {T : HT} (hL : Lay T) {h : Hp} (eT : h.2.2 = T) (x1 : Int32)  {Q : Option Value → Hp → Prop} (k : Q (some (.int (r_X10_fault x1 h))) h) : Call (d + 0) MX10_fault [.ref 1, .int x1] h Q := by
  show At (d + 0) MX10_fault 0 [.ref 1, .int x1] [] h Q
  refine At_iload_n (pc' := 1) iX10_fault_0 rfl rfl ?_
  refine At_if_ne (t := 12) (pc' := 4) iX10_fault_1 (by decide) rfl (fun c1 => ?_) (fun c1 => ?_)
  · refine At_iload_n (pc' := 13) iX10_fault_12 rfl rfl ?_
    refine At_iconst (v := nI 1) (pc' := 14) iX10_fault_13 rfl (by decide) ?_
    refine At_icmp_ne (t := 27) (pc' := 17) iX10_fault_14 (by decide) rfl (fun c14 => ?_) (fun c14 => ?_)
    · refine At_iconst (v := (-1)) (pc' := 28) iX10_fault_27 rfl (by decide) ?_
      simp only [r_X10_fault, if_neg c1, if_neg c14] at k
      exact At_retI iX10_fault_28 rfl k
    · refine At_aload_n (pc' := 18) iX10_fault_17 rfl rfl ?_
      refine At_getR (pc' := 21) iX10_fault_18 rfl f_10_10 (kdK eT (kd_1 hL)) (by decide) (rfH eT (rf_1_0 hL)) ?_
      refine At_getI (pc' := 24) iX10_fault_21 rfl f_10_135 (kdK eT (kd_2 hL)) (by decide) ?_
      refine At_goto (t := 28) iX10_fault_24 (by decide) ?_
      simp only [r_X10_fault, if_neg c1, if_pos c14] at k
      exact At_retI iX10_fault_28 rfl k
  · refine At_aload_n (pc' := 5) iX10_fault_4 rfl rfl ?_
    refine At_getR (pc' := 8) iX10_fault_5 rfl f_10_10 (kdK eT (kd_1 hL)) (by decide) (rfH eT (rf_1_0 hL)) ?_
    refine At_getI (pc' := 11) iX10_fault_8 rfl f_10_132 (kdK eT (kd_2 hL)) (by decide) ?_
    simp only [r_X10_fault, if_pos c1] at k
    exact At_retI iX10_fault_11 rfl k
def r_X10_isColour (x0 : Int32) : Bool := if x0 < 0 then false else (if x0 < (nI 10) then true else false)
set_option maxRecDepth 20000 in
theorem c_X10_isColour {d : Nat} {h : Hp} (x0 : Int32)  {Q : Option Value → Hp → Prop} (k : Q (some (.int (b2i (r_X10_isColour x0)))) h) : Call (d + 0) MX10_isColour [.int x0] h Q := by
  show At (d + 0) MX10_isColour 0 [.int x0] [] h Q
  refine At_iload_n (pc' := 1) iX10_isColour_0 rfl rfl ?_
  refine At_if_lt (t := 14) (pc' := 4) iX10_isColour_1 (by decide) rfl (fun c1 => ?_) (fun c1 => ?_)
  · refine At_iconst (v := nI 0) (pc' := 15) iX10_isColour_14 rfl (by decide) ?_
    simp only [r_X10_isColour, if_pos c1] at k
    exact At_retF iX10_isColour_15 rfl k
  · refine At_iload_n (pc' := 5) iX10_isColour_4 rfl rfl ?_
    refine At_bipush (v := nI 10) (pc' := 7) iX10_isColour_5 rfl (by decide) ?_
    refine At_icmp_ge (t := 14) (pc' := 10) iX10_isColour_7 (by decide) rfl (fun c7 => ?_) (fun c7 => ?_)
    · refine At_iconst (v := nI 0) (pc' := 15) iX10_isColour_14 rfl (by decide) ?_
      simp only [r_X10_isColour, if_neg c1, if_neg c7] at k
      exact At_retF iX10_isColour_15 rfl k
    · refine At_iconst (v := nI 1) (pc' := 11) iX10_isColour_10 rfl (by decide) ?_
      refine At_goto (t := 15) iX10_isColour_11 (by decide) ?_
      simp only [r_X10_isColour, if_neg c1, if_pos c7] at k
      exact At_retT iX10_isColour_15 rfl k
def r_X10_isSlot (x1 : Int32) (h : Hp) : Bool := if x1 < 0 then false else (if x1 < (gI h 12 0) then true else false)
set_option maxRecDepth 20000 in
theorem c_X10_isSlot {d : Nat} {T : HT} (hL : Lay T) {h : Hp} (eT : h.2.2 = T) (x1 : Int32)  {Q : Option Value → Hp → Prop} (k : Q (some (.int (b2i (r_X10_isSlot x1 h)))) h) : Call (d + 0) MX10_isSlot [.ref 1, .int x1] h Q := by
  show At (d + 0) MX10_isSlot 0 [.ref 1, .int x1] [] h Q
  refine At_iload_n (pc' := 1) iX10_isSlot_0 rfl rfl ?_
  refine At_if_lt (t := 19) (pc' := 4) iX10_isSlot_1 (by decide) rfl (fun c1 => ?_) (fun c1 => ?_)
  · refine At_iconst (v := nI 0) (pc' := 20) iX10_isSlot_19 rfl (by decide) ?_
    simp only [r_X10_isSlot, if_pos c1] at k
    exact At_retF iX10_isSlot_20 rfl k
  · refine At_iload_n (pc' := 5) iX10_isSlot_4 rfl rfl ?_
    refine At_aload_n (pc' := 6) iX10_isSlot_5 rfl rfl ?_
    refine At_getR (pc' := 9) iX10_isSlot_6 rfl f_10_19 (kdK eT (kd_1 hL)) (by decide) (rfH eT (rf_1_1 hL)) ?_
    refine At_getI (pc' := 12) iX10_isSlot_9 rfl f_10_109 (kdK eT (kd_12 hL)) (by decide) ?_
    refine At_icmp_ge (t := 19) (pc' := 15) iX10_isSlot_12 (by decide) rfl (fun c12 => ?_) (fun c12 => ?_)
    · refine At_iconst (v := nI 0) (pc' := 20) iX10_isSlot_19 rfl (by decide) ?_
      simp only [r_X10_isSlot, if_neg c1, if_neg c12] at k
      exact At_retF iX10_isSlot_20 rfl k
    · refine At_iconst (v := nI 1) (pc' := 16) iX10_isSlot_15 rfl (by decide) ?_
      refine At_goto (t := 20) iX10_isSlot_16 (by decide) ?_
      simp only [r_X10_isSlot, if_neg c1, if_pos c12] at k
      exact At_retT iX10_isSlot_20 rfl k
def r_X10_isSong (x0 : Int32) : Bool := if x0 < 0 then false else (if x0 < (nI 4) then true else false)
set_option maxRecDepth 20000 in
theorem c_X10_isSong {d : Nat} {h : Hp} (x0 : Int32)  {Q : Option Value → Hp → Prop} (k : Q (some (.int (b2i (r_X10_isSong x0)))) h) : Call (d + 0) MX10_isSong [.int x0] h Q := by
  show At (d + 0) MX10_isSong 0 [.int x0] [] h Q
  refine At_iload_n (pc' := 1) iX10_isSong_0 rfl rfl ?_
  refine At_if_lt (t := 13) (pc' := 4) iX10_isSong_1 (by decide) rfl (fun c1 => ?_) (fun c1 => ?_)
  · refine At_iconst (v := nI 0) (pc' := 14) iX10_isSong_13 rfl (by decide) ?_
    simp only [r_X10_isSong, if_pos c1] at k
    exact At_retF iX10_isSong_14 rfl k
  · refine At_iload_n (pc' := 5) iX10_isSong_4 rfl rfl ?_
    refine At_iconst (v := nI 4) (pc' := 6) iX10_isSong_5 rfl (by decide) ?_
    refine At_icmp_ge (t := 13) (pc' := 9) iX10_isSong_6 (by decide) rfl (fun c6 => ?_) (fun c6 => ?_)
    · refine At_iconst (v := nI 0) (pc' := 14) iX10_isSong_13 rfl (by decide) ?_
      simp only [r_X10_isSong, if_neg c1, if_neg c6] at k
      exact At_retF iX10_isSong_14 rfl k
    · refine At_iconst (v := nI 1) (pc' := 10) iX10_isSong_9 rfl (by decide) ?_
      refine At_goto (t := 14) iX10_isSong_10 (by decide) ?_
      simp only [r_X10_isSong, if_neg c1, if_pos c6] at k
      exact At_retT iX10_isSong_14 rfl k
def r_X10_oneOfThree (x0 : Int32) (x1 : Int32) (x2 : Int32) (x3 : Int32) : Int32 := if x0 = 0 then x1 else (if x0 = (nI 1) then x2 else x3)
set_option maxRecDepth 20000 in
theorem c_X10_oneOfThree {d : Nat} {h : Hp} (x0 : Int32) (x1 : Int32) (x2 : Int32) (x3 : Int32)  {Q : Option Value → Hp → Prop} (k : Q (some (.int (r_X10_oneOfThree x0 x1 x2 x3))) h) : Call (d + 0) MX10_oneOfThree [.int x0, .int x1, .int x2, .int x3] h Q := by
  show At (d + 0) MX10_oneOfThree 0 [.int x0, .int x1, .int x2, .int x3] [] h Q
  refine At_iload_n (pc' := 1) iX10_oneOfThree_0 rfl rfl ?_
  refine At_if_ne (t := 6) (pc' := 4) iX10_oneOfThree_1 (by decide) rfl (fun c1 => ?_) (fun c1 => ?_)
  · refine At_iload_n (pc' := 7) iX10_oneOfThree_6 rfl rfl ?_
    refine At_iconst (v := nI 1) (pc' := 8) iX10_oneOfThree_7 rfl (by decide) ?_
    refine At_icmp_ne (t := 15) (pc' := 11) iX10_oneOfThree_8 (by decide) rfl (fun c8 => ?_) (fun c8 => ?_)
    · refine At_iload_n (pc' := 16) iX10_oneOfThree_15 rfl rfl ?_
      simp only [r_X10_oneOfThree, if_neg c1, if_neg c8] at k
      exact At_retI iX10_oneOfThree_16 rfl k
    · refine At_iload_n (pc' := 12) iX10_oneOfThree_11 rfl rfl ?_
      refine At_goto (t := 16) iX10_oneOfThree_12 (by decide) ?_
      simp only [r_X10_oneOfThree, if_neg c1, if_pos c8] at k
      exact At_retI iX10_oneOfThree_16 rfl k
  · refine At_iload_n (pc' := 5) iX10_oneOfThree_4 rfl rfl ?_
    simp only [r_X10_oneOfThree, if_pos c1] at k
    exact At_retI iX10_oneOfThree_5 rfl k
def r_X11_bad (x1 : Int32) (h : Hp) : Bool := false
def w_X11_bad (x1 : Int32) (h : Hp) : Hp := sI (sI h 59 13 x1) 59 14 (gI (sI h 59 13 x1) 59 11)
theorem wT_X11_bad (x1 : Int32) (h : Hp) : (w_X11_bad x1 h).2.2 = h.2.2 := by
  unfold w_X11_bad
  repeat' split
  all_goals first | rfl | (simp only [sI_T, sJ_T, cpI_T, wT_dummy]; done)
set_option maxRecDepth 20000 in
theorem c_X11_bad {d : Nat} {T : HT} (hL : Lay T) {h : Hp} (eT : h.2.2 = T) (x1 : Int32)  {Q : Option Value → Hp → Prop} (k : Q (some (.int (b2i (r_X11_bad x1 h)))) (w_X11_bad x1 h)) : Call (d + 0) MX11_bad [.ref 59, .int x1] h Q := by
  show At (d + 0) MX11_bad 0 [.ref 59, .int x1] [] h Q
  refine At_aload_n (pc' := 1) iX11_bad_0 rfl rfl ?_
  refine At_iload_n (pc' := 2) iX11_bad_1 rfl rfl ?_
  refine At_putI (pc' := 5) iX11_bad_2 rfl f_11_136 (kdK eT (kd_59 hL)) (Or.inl rfl) (by decide) ?_
  refine At_aload_n (pc' := 6) iX11_bad_5 rfl rfl ?_
  refine At_aload_n (pc' := 7) iX11_bad_6 rfl rfl ?_
  refine At_getI (pc' := 10) iX11_bad_7 rfl f_11_88 (kdK eT (kd_59 hL)) (by decide) ?_
  refine At_putI (pc' := 13) iX11_bad_10 rfl f_11_139 (kdK eT (kd_59 hL)) (Or.inl rfl) (by decide) ?_
  refine At_iconst (v := nI 0) (pc' := 14) iX11_bad_13 rfl (by decide) ?_
  simp only [r_X11_bad, w_X11_bad] at k
  exact At_retF iX11_bad_14 rfl k
def r_X11_draw (x1 : Int32) (h : Hp) : Int32 := irem (ushr (gI (sI h 60 2 (((nI 1664525) * (gI h 60 2)) + (nI 1013904223))) 60 2) (nI 8)) x1
def w_X11_draw (x1 : Int32) (h : Hp) : Hp := sI h 60 2 (((nI 1664525) * (gI h 60 2)) + (nI 1013904223))
def p_X11_draw (x1 : Int32) (h : Hp) : Prop := (¬ x1 = 0) ∧ True
theorem wT_X11_draw (x1 : Int32) (h : Hp) : (w_X11_draw x1 h).2.2 = h.2.2 := by
  unfold w_X11_draw
  repeat' split
  all_goals first | rfl | (simp only [sI_T, sJ_T, cpI_T, wT_dummy]; done)
set_option maxRecDepth 20000 in
theorem c_X11_draw {d : Nat} {T : HT} (hL : Lay T) {h : Hp} (eT : h.2.2 = T) (x1 : Int32)  (hp : p_X11_draw x1 h) {Q : Option Value → Hp → Prop} (k : Q (some (.int (r_X11_draw x1 h))) (w_X11_draw x1 h)) : Call (d + 0) MX11_draw [.ref 59, .int x1] h Q := by
  show At (d + 0) MX11_draw 0 [.ref 59, .int x1] [] h Q
  simp only [p_X11_draw] at hp
  refine At_aload_n (pc' := 1) iX11_draw_0 rfl rfl ?_
  refine At_getR (pc' := 4) iX11_draw_1 rfl f_11_7 (kdK eT (kd_59 hL)) (by decide) (rfH eT (rf_59_0 hL)) ?_
  refine At_iconst (v := nI 2) (pc' := 5) iX11_draw_4 rfl (by decide) ?_
  refine At_ldcI (v := nI 1664525) (pc' := 7) iX11_draw_5 rfl rfl ?_
  refine At_aload_n (pc' := 8) iX11_draw_7 rfl rfl ?_
  refine At_getR (pc' := 11) iX11_draw_8 rfl f_11_7 (kdK eT (kd_59 hL)) (by decide) (rfH eT (rf_59_0 hL)) ?_
  refine At_iconst (v := nI 2) (pc' := 12) iX11_draw_11 rfl (by decide) ?_
  refine At_iald (pc' := 13) iX11_draw_12 rfl (kdH eT (kd_60 hL)) (by decide) (show At (d + 0) MX11_draw 13 [.ref 59, .int x1] [.int (gI h 60 2), .int (nI 1664525), .int (nI 2), .ref 60] h Q from ?_)
  refine At_imul (pc' := 14) iX11_draw_13 rfl ?_
  refine At_ldcI (v := nI 1013904223) (pc' := 16) iX11_draw_14 rfl rfl ?_
  refine At_iadd (pc' := 17) iX11_draw_16 rfl ?_
  refine At_iast (pc' := 18) iX11_draw_17 rfl (kdH eT (kd_60 hL)) (by decide) (show At (d + 0) MX11_draw 18 [.ref 59, .int x1] [] (sI h 60 2 (((nI 1664525) * (gI h 60 2)) + (nI 1013904223))) Q from ?_)
  refine At_aload_n (pc' := 19) iX11_draw_18 rfl rfl ?_
  refine At_getR (pc' := 22) iX11_draw_19 rfl f_11_7 (kdK eT (kd_59 hL)) (by decide) (rfH eT (rf_59_0 hL)) ?_
  refine At_iconst (v := nI 2) (pc' := 23) iX11_draw_22 rfl (by decide) ?_
  refine At_iald (pc' := 24) iX11_draw_23 rfl (kdH eT (kd_60 hL)) (by decide) (show At (d + 0) MX11_draw 24 [.ref 59, .int x1] [.int (gI (sI h 60 2 (((nI 1664525) * (gI h 60 2)) + (nI 1013904223))) 60 2)] (sI h 60 2 (((nI 1664525) * (gI h 60 2)) + (nI 1013904223))) Q from ?_)
  refine At_bipush (v := nI 8) (pc' := 26) iX11_draw_24 rfl (by decide) ?_
  refine At_iushr (pc' := 27) iX11_draw_26 rfl ?_
  refine At_iload_n (pc' := 28) iX11_draw_27 rfl rfl ?_
  obtain ⟨hp1, hp⟩ := hp
  refine At_irem (pc' := 29) iX11_draw_28 rfl hp1 ?_
  simp only [r_X11_draw, w_X11_draw] at k
  exact At_retI iX11_draw_29 rfl k
