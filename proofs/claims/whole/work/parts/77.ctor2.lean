section Ctor2
variable {d a : Nat} {h : Hp} {Q : Option Value → Hp → Prop}
theorem k_X3 (hk : shp h a = (13, 1)) (hz : nxt h = a + 1) (h9 : a < 700000) (K : ∀ h' : Hp, Nw h h' a [(1, 64)] → gR h' a 0 = some (a + 1) → (∀ j, gI h' (a + 1) j = 0) → Q none h') : Call d MX3_init [.ref a] h Q := by
  show At d MX3_init 0 [.ref a] [] h Q
  refine At_aload_n (pc' := 1) iX3_init_0 rfl rfl ?_
  refine At_oinit (pc' := 4) iX3_init_1 rfl m_3_3 (Nat.le_of_ble_eq_true rfl) ?_
  refine At_aload_n (pc' := 5) iX3_init_4 rfl rfl ?_
  refine At_bipush (v := nI 64) (pc' := 7) iX3_init_5 rfl (by decide) ?_
  refine At_newI (N := 64) (z := a + 1) (pc' := 9) iX3_init_7 rfl (by decide) (by decide) (by decide) (by (try simp only [nx_new, nxt_sI, nxt_sJ, nxt_sR]); omega) (by omega) ?_
  refine At_putR (pc' := 12) iX3_init_9 rfl f_3_11 (by simp [Nat.add_assoc, sh_new, shp_sI, shp_sJ, shp_sR, nx_new, nxt_sI, nxt_sJ, nxt_sR, hz, hk]) (Or.inr ⟨rfl, rfl⟩) (by decide) (by (try simp only [nx_new, nxt_sI, nxt_sJ, nxt_sR]); omega) ?_
  refine At_retV iX3_init_12 rfl ?_
  refine K _ ⟨rfl, fun b j hb => ?_, fun b j hb => ?_, fun b j hb => ?_⟩ ?_ (fun j => ?_)
  · simp [Nat.add_assoc, gI_new, gI_sR, hz, show ¬ b = a + 1 by omega, show ¬ b = a by omega]
  · simp [Nat.add_assoc, gJ_new, gJ_sR, hz, show ¬ b = a + 1 by omega]
  · simp [Nat.add_assoc, gR_new, gR_sR, hz, show ¬ b = a + 1 by omega, show ¬ b = a by omega]
  · simp [gR_sR]
  · simp [gI_new, gI_sR, hz]
theorem k_X0 (hk : shp h a = (10, 2)) (hz : nxt h = a + 1) (h9 : a < 700000) (K : ∀ h' : Hp, Nw h h' a [(1, 200), (1, 202)] → gR h' a 0 = some (a + 1) → gR h' a 1 = some (a + 2) → Q none h') : Call d MX0_init [.ref a] h Q := by
  show At d MX0_init 0 [.ref a] [] h Q
  refine At_aload_n (pc' := 1) iX0_init_0 rfl rfl ?_
  refine At_oinit (pc' := 4) iX0_init_1 rfl m_0_3 (Nat.le_of_ble_eq_true rfl) ?_
  refine At_aload_n (pc' := 5) iX0_init_4 rfl rfl ?_
  refine At_sipush (v := nI 200) (pc' := 8) iX0_init_5 rfl (by decide) ?_
  refine At_newI (N := 200) (z := a + 1) (pc' := 10) iX0_init_8 rfl (by decide) (by decide) (by decide) (by (try simp only [nx_new, nxt_sI, nxt_sJ, nxt_sR]); omega) (by omega) ?_
  refine At_putR (pc' := 13) iX0_init_10 rfl f_0_9 (by simp [Nat.add_assoc, sh_new, shp_sI, shp_sJ, shp_sR, nx_new, nxt_sI, nxt_sJ, nxt_sR, hz, hk]) (Or.inr ⟨rfl, rfl⟩) (by decide) (by (try simp only [nx_new, nxt_sI, nxt_sJ, nxt_sR]); omega) ?_
  refine At_aload_n (pc' := 14) iX0_init_13 rfl rfl ?_
  refine At_sipush (v := nI 202) (pc' := 17) iX0_init_14 rfl (by decide) ?_
  refine At_newI (N := 202) (z := a + 2) (pc' := 19) iX0_init_17 rfl (by decide) (by decide) (by decide) (by (try simp only [nx_new, nxt_sI, nxt_sJ, nxt_sR]); omega) (by omega) ?_
  refine At_putR (pc' := 22) iX0_init_19 rfl f_0_15 (by simp [Nat.add_assoc, sh_new, shp_sI, shp_sJ, shp_sR, nx_new, nxt_sI, nxt_sJ, nxt_sR, hz, hk]) (Or.inr ⟨rfl, rfl⟩) (by decide) (by (try simp only [nx_new, nxt_sI, nxt_sJ, nxt_sR]); omega) ?_
  refine At_retV iX0_init_22 rfl ?_
  refine K _ ⟨List.append_assoc _ _ _, fun b j hb => ?_, fun b j hb => ?_, fun b j hb => ?_⟩ ?_ ?_
  · simp [Nat.add_assoc, gI_new, gI_sR, nx_new, nxt_sR, hz, show ¬ b = a + 1 by omega, show ¬ b = a by omega, show ¬ b = a + 2 by omega]
  · simp [Nat.add_assoc, gJ_new, gJ_sR, nx_new, nxt_sR, hz, show ¬ b = a + 1 by omega, show ¬ b = a + 2 by omega]
  · simp [Nat.add_assoc, gR_new, gR_sR, nx_new, nxt_sR, hz, show ¬ b = a + 1 by omega, show ¬ b = a by omega, show ¬ b = a + 2 by omega]
  · simp [Nat.add_assoc, gR_new, gR_sR, nx_new, nxt_sR, hz]
  · simp [Nat.add_assoc, gR_sR]
theorem k_X9 (hk : shp h a = (17, 6)) (hz : nxt h = a + 1) (h9 : a < 700000) (K : ∀ h' : Hp, Nw h h' a [(1, 401), (1, 401), (1, 401), (2, 400)] → gI h' a 0 = nI 0 → gR h' a 2 = some (a + 1) → gR h' a 3 = some (a + 2) → gR h' a 4 = some (a + 3) → gR h' a 5 = some (a + 4) → Q none h') : Call d MX9_init [.ref a] h Q := by
  show At d MX9_init 0 [.ref a] [] h Q
  refine At_aload_n (pc' := 1) iX9_init_0 rfl rfl ?_
  refine At_oinit (pc' := 4) iX9_init_1 rfl m_9_3 (Nat.le_of_ble_eq_true rfl) ?_
  refine At_aload_n (pc' := 5) iX9_init_4 rfl rfl ?_
  refine At_iconst (v := nI 0) (pc' := 6) iX9_init_5 rfl (by decide) ?_
  refine At_putI (pc' := 9) iX9_init_6 rfl f_9_9 (by simp [Nat.add_assoc, sh_new, shp_sI, shp_sJ, shp_sR, nx_new, nxt_sI, nxt_sJ, nxt_sR, hz, hk]) (Or.inr ⟨rfl, rfl⟩) (by decide) ?_
  refine At_aload_n (pc' := 10) iX9_init_9 rfl rfl ?_
  refine At_iconst (v := nI 0) (pc' := 11) iX9_init_10 rfl (by decide) ?_
  refine At_putI (pc' := 14) iX9_init_11 rfl f_9_15 (by simp [Nat.add_assoc, sh_new, shp_sI, shp_sJ, shp_sR, nx_new, nxt_sI, nxt_sJ, nxt_sR, hz, hk]) (Or.inr ⟨rfl, rfl⟩) (by decide) ?_
  refine At_aload_n (pc' := 15) iX9_init_14 rfl rfl ?_
  refine At_sipush (v := nI 401) (pc' := 18) iX9_init_15 rfl (by decide) ?_
  refine At_newI (N := 401) (z := a + 1) (pc' := 20) iX9_init_18 rfl (by decide) (by decide) (by decide) (by (try simp only [nx_new, nxt_sI, nxt_sJ, nxt_sR]); omega) (by omega) ?_
  refine At_putR (pc' := 23) iX9_init_20 rfl f_9_18 (by simp [Nat.add_assoc, sh_new, shp_sI, shp_sJ, shp_sR, nx_new, nxt_sI, nxt_sJ, nxt_sR, hz, hk]) (Or.inr ⟨rfl, rfl⟩) (by decide) (by (try simp only [nx_new, nxt_sI, nxt_sJ, nxt_sR]); omega) ?_
  refine At_aload_n (pc' := 24) iX9_init_23 rfl rfl ?_
  refine At_sipush (v := nI 401) (pc' := 27) iX9_init_24 rfl (by decide) ?_
  refine At_newI (N := 401) (z := a + 2) (pc' := 29) iX9_init_27 rfl (by decide) (by decide) (by decide) (by (try simp only [nx_new, nxt_sI, nxt_sJ, nxt_sR]); omega) (by omega) ?_
  refine At_putR (pc' := 32) iX9_init_29 rfl f_9_22 (by simp [Nat.add_assoc, sh_new, shp_sI, shp_sJ, shp_sR, nx_new, nxt_sI, nxt_sJ, nxt_sR, hz, hk]) (Or.inr ⟨rfl, rfl⟩) (by decide) (by (try simp only [nx_new, nxt_sI, nxt_sJ, nxt_sR]); omega) ?_
  refine At_aload_n (pc' := 33) iX9_init_32 rfl rfl ?_
  refine At_sipush (v := nI 401) (pc' := 36) iX9_init_33 rfl (by decide) ?_
  refine At_newI (N := 401) (z := a + 3) (pc' := 38) iX9_init_36 rfl (by decide) (by decide) (by decide) (by (try simp only [nx_new, nxt_sI, nxt_sJ, nxt_sR]); omega) (by omega) ?_
  refine At_putR (pc' := 41) iX9_init_38 rfl f_9_25 (by simp [Nat.add_assoc, sh_new, shp_sI, shp_sJ, shp_sR, nx_new, nxt_sI, nxt_sJ, nxt_sR, hz, hk]) (Or.inr ⟨rfl, rfl⟩) (by decide) (by (try simp only [nx_new, nxt_sI, nxt_sJ, nxt_sR]); omega) ?_
  refine At_aload_n (pc' := 42) iX9_init_41 rfl rfl ?_
  refine At_sipush (v := nI 400) (pc' := 45) iX9_init_42 rfl (by decide) ?_
  refine At_newB (N := 400) (z := a + 4) (pc' := 47) iX9_init_45 rfl (by decide) (by decide) (by decide) (by (try simp only [nx_new, nxt_sI, nxt_sJ, nxt_sR]); omega) (by omega) ?_
  refine At_putR (pc' := 50) iX9_init_47 rfl f_9_28 (by simp [Nat.add_assoc, sh_new, shp_sI, shp_sJ, shp_sR, nx_new, nxt_sI, nxt_sJ, nxt_sR, hz, hk]) (Or.inr ⟨rfl, rfl⟩) (by decide) (by (try simp only [nx_new, nxt_sI, nxt_sJ, nxt_sR]); omega) ?_
  refine At_retV iX9_init_50 rfl ?_
  refine K _ ⟨?_, fun b j hb => ?_, fun b j hb => ?_, fun b j hb => ?_⟩ ?_ ?_ ?_ ?_ ?_
  · show ((((h.2.2.2 ++ [(1, 401)]) ++ [(1, 401)]) ++ [(1, 401)]) ++ [(2, 400)]) = _
    simp
  · simp [Nat.add_assoc, gI_new, gI_sR, gI_sI, nx_new, nxt_sR, nxt_sI, hz, show ¬ b = a + 1 by omega, show ¬ b = a by omega, show ¬ b = a + 2 by omega, show ¬ b = a + 3 by omega, show ¬ b = a + 4 by omega]
  · simp [Nat.add_assoc, gJ_new, gJ_sR, gJ_sI, nx_new, nxt_sR, nxt_sI, hz, show ¬ b = a + 1 by omega, show ¬ b = a by omega, show ¬ b = a + 2 by omega, show ¬ b = a + 3 by omega, show ¬ b = a + 4 by omega]
  · simp [Nat.add_assoc, gR_new, gR_sR, gR_sI, nx_new, nxt_sR, nxt_sI, hz, show ¬ b = a + 1 by omega, show ¬ b = a by omega, show ¬ b = a + 2 by omega, show ¬ b = a + 3 by omega, show ¬ b = a + 4 by omega]
  · simp [Nat.add_assoc, gI_new, gI_sR, gI_sI, nx_new, nxt_sR, nxt_sI, hz]
  · simp [Nat.add_assoc, gR_new, gR_sR, gR_sI, nx_new, nxt_sR, nxt_sI, hz]
  · simp [Nat.add_assoc, gR_new, gR_sR, gR_sI, nx_new, nxt_sR, nxt_sI, hz]
  · simp [Nat.add_assoc, gR_new, gR_sR, gR_sI, nx_new, nxt_sR, nxt_sI, hz]
  · simp [Nat.add_assoc, gR_sR]
def crd : Nat → List (Nat × Nat)
  | 0 => []
  | i + 1 => crd i ++ [(11, 6), (1, 16), (1, 256)]
theorem crd_len : ∀ i, (crd i).length = 3 * i
  | 0 => rfl
  | i + 1 => by unfold crd; rw [List.length_append, crd_len i]; show 3 * i + 3 = _; omega
theorem k_X2 (hk : shp h a = (12, 3)) (hz : nxt h = a + 1) (h9 : a < 700000) (K : ∀ h' : Hp, Nw h h' a ([(4, 6)] ++ crd 6) → gI h' a 0 = nI 0 → gI h' a 1 = nI 0 → gR h' a 2 = some (a + 1) → (∀ k, k < 6 → gR h' (a + 1) k = some (a + 2 + 3 * k) ∧ IsX1 h'.2.2 (a + 2 + 3 * k)) → Q none h') : Call (d + 3) MX2_init [.ref a] h Q := by
  show At (d + 3) MX2_init 0 [.ref a, un] [] h Q
  refine At_aload_n (pc' := 1) iX2_init_0 rfl rfl ?_
  refine At_oinit (pc' := 4) iX2_init_1 rfl m_2_3 (Nat.le_of_ble_eq_true rfl) ?_
  refine At_aload_n (pc' := 5) iX2_init_4 rfl rfl ?_
  refine At_iconst (v := nI 0) (pc' := 6) iX2_init_5 rfl (by decide) ?_
  refine At_putI (pc' := 9) iX2_init_6 rfl f_2_9 (by simp [Nat.add_assoc, sh_new, shp_sI, shp_sJ, shp_sR, nx_new, nxt_sI, nxt_sJ, nxt_sR, hz, hk]) (Or.inr ⟨rfl, rfl⟩) (by decide) ?_
  refine At_aload_n (pc' := 10) iX2_init_9 rfl rfl ?_
  refine At_iconst (v := nI 0) (pc' := 11) iX2_init_10 rfl (by decide) ?_
  refine At_putI (pc' := 14) iX2_init_11 rfl f_2_15 (by simp [Nat.add_assoc, sh_new, shp_sI, shp_sJ, shp_sR, nx_new, nxt_sI, nxt_sJ, nxt_sR, hz, hk]) (Or.inr ⟨rfl, rfl⟩) (by decide) ?_
  refine At_aload_n (pc' := 15) iX2_init_14 rfl rfl ?_
  refine At_bipush (v := nI 6) (pc' := 17) iX2_init_15 rfl (by decide) ?_
  refine At_newQ (kd := 4) (N := 6) (z := a + 1) (pc' := 20) iX2_init_17 rfl rfl (by decide) (by decide) (by decide) (by (try simp only [nx_new, nxt_sI, nxt_sJ, nxt_sR]); omega) (by omega) ?_
  refine At_putR (pc' := 23) iX2_init_20 rfl f_2_20 (by simp [Nat.add_assoc, sh_new, shp_sI, shp_sJ, shp_sR, nx_new, nxt_sI, nxt_sJ, nxt_sR, hz, hk]) (Or.inr ⟨rfl, rfl⟩) (by decide) (by (try simp only [nx_new, nxt_sI, nxt_sJ, nxt_sR]); omega) ?_
  refine genA (P := fun H => Nw h H a ([(4, 6)] ++ crd 0) ∧ gI H a 0 = nI 0 ∧ gI H a 1 = nI 0 ∧ gR H a 2 = some (a + 1)) ⟨⟨rfl, fun b j hb => ?_, fun b j hb => ?_, fun b j hb => ?_⟩, ?_, ?_, ?_⟩ ?_
  · simp [Nat.add_assoc, gI_new, gI_sR, gI_sI, nx_new, nxt_sR, nxt_sI, hz, show ¬ b = a + 1 by omega, show ¬ b = a by omega]
  · simp [Nat.add_assoc, gJ_new, gJ_sR, gJ_sI, nx_new, nxt_sR, nxt_sI, hz, show ¬ b = a + 1 by omega]
  · simp [Nat.add_assoc, gR_new, gR_sR, gR_sI, nx_new, nxt_sR, nxt_sI, hz, show ¬ b = a + 1 by omega, show ¬ b = a by omega]
  · simp [Nat.add_assoc, gI_new, gI_sR, gI_sI, nx_new, nxt_sR, nxt_sI, hz]
  · simp [Nat.add_assoc, gI_new, gI_sR, gI_sI, nx_new, nxt_sR, nxt_sI, hz]
  · simp [Nat.add_assoc, gR_sR]
  rintro H ⟨nw, f0, f1, f2⟩
  refine At_iconst (v := nI 0) (pc' := 24) iX2_init_23 rfl (by decide) ?_
  refine At_istore_n (L' := [.ref a, .int (nI 0)]) (pc' := 25) iX2_init_24 rfl (Nat.le_of_ble_eq_true rfl) rfl ?_
  refine upto 6 (fun i H => Nw h H a ([(4, 6)] ++ crd i) ∧ gI H a 0 = nI 0 ∧ gI H a 1 = nI 0 ∧ gR H a 2 = some (a + 1) ∧ ∀ k, k < i → gR H (a + 1) k = some (a + 2 + 3 * k) ∧ IsX1 H.2.2 (a + 2 + 3 * k)) (fun i H => At (d + 3) MX2_init 25 [.ref a, .int (nI i)] [] H Q) ?_ ?_ 0 H (Nat.zero_le _) ⟨nw, f0, f1, f2, fun k hk => by omega⟩
  · rintro i H hi ⟨nw, f0, f1, f2, sg⟩ ih
    have hzH : nxt H = a + 2 + 3 * i := by rw [nw.nx, hz, List.length_append, crd_len]; show a + 1 + (1 + 3 * i) = _; omega
    have hkH : shp H a = (12, 3) := by rw [nw.sh (by omega)]; exact hk
    have hk2 : shp H (a + 1) = (4, 6) := nw.at (i := 0) hz
    refine At_iload_n (pc' := 26) iX2_init_25 rfl rfl ?_
    refine At_bipush (v := nI 6) (pc' := 28) iX2_init_26 rfl (by decide) ?_
    refine At_icmp_ge (t := 50) (pc' := 31) iX2_init_28 (by decide) rfl (fun z => absurd (nI_lt hi (by decide)) z) (fun _ => ?_)
    refine At_aload_n (pc' := 32) iX2_init_31 rfl rfl ?_
    refine At_getR (pc' := 35) iX2_init_32 rfl f_2_20 (by rw [hkH]) (by decide) f2 ?_
    refine At_iload_n (pc' := 36) iX2_init_35 rfl rfl ?_
    refine At_newO (c := 1) (N := 6) (z := a + 2 + 3 * i) (pc' := 39) iX2_init_36 rfl rfl rfl hzH (by omega) ?_
    refine At_dup (pc' := 40) iX2_init_39 rfl rfl ?_
    refine At_spec (pc' := 43) iX2_init_40 rfl m_2_24 (Or.inr rfl) rfl rfl (Nat.le_of_ble_eq_true rfl) (Nat.le_of_ble_eq_true rfl) ?_
    refine k_X1 (d := d) (by rw [sh_new, if_pos hzH.symm]) (by rw [nx_new, hzH]) (by omega) (fun h1 nw1 x1 _ _ _ _ _ _ => ?_)
    show At (d + 3) MX2_init 43 [.ref a, .int (nI i)] [.ref (a + 2 + 3 * i), .int (nI i), .ref (a + 1)] h1 Q
    have s1 : ∀ b, b < a + 2 + 3 * i → shp h1 b = shp H b := fun b hb => by rw [nw1.sh (by rw [nx_new]; omega), sh_new, if_neg (by omega)]
    have g1 : ∀ b j, b < a + 2 + 3 * i → gI h1 b j = gI H b j := fun b j hb => by rw [nw1.2.1 b j hb, gI_new, if_neg (by omega)]
    have j1 : ∀ b j, b < a + 2 + 3 * i → gJ h1 b j = gJ H b j := fun b j hb => by rw [nw1.2.2.1 b j hb, gJ_new, if_neg (by omega)]
    have r1 : ∀ b j, b < a + 2 + 3 * i → gR h1 b j = gR H b j := fun b j hb => by rw [nw1.2.2.2 b j hb, gR_new, if_neg (by omega)]
    refine At_aast (pc' := 44) iX2_init_43 rfl (by rw [s1 _ (by omega)]; exact hk2) x1.1 (Or.inr ⟨rfl, rfl⟩) ((inB_iff (by omega)).mpr hi) ?_
    rw [nI_clamp (by omega)]
    refine At_iinc (v := nI 1) (L' := [.ref a, .int (nI (i + 1))]) (pc' := 47) iX2_init_44 rfl rfl (Nat.le_of_ble_eq_true rfl) (by decide) (by rw [nI_add]; rfl) ?_
    refine At_goto (t := 25) iX2_init_47 (by decide) (ih _ ⟨⟨?_, fun b j hb => ?_, fun b j hb => ?_, fun b j hb => ?_⟩, by rw [gI_sR, g1 _ _ (by omega)]; exact f0, by rw [gI_sR, g1 _ _ (by omega)]; exact f1, by rw [gR_sR, if_neg (by omega), r1 _ _ (by omega)]; exact f2, fun k hk => ?_⟩)
    · show h1.2.2.2 = _
      rw [nw1.1, show (newO H 11 6).2.2.2 = H.2.2.2 ++ [(11, 6)] from rfl, nw.1]
      simp [crd]
    · rw [gI_sR, g1 b j (by omega)]; exact nw.2.1 b j hb
    · rw [gJ_sR, j1 b j (by omega)]; exact nw.2.2.1 b j hb
    · rw [gR_sR, if_neg (by omega), r1 b j (by omega)]; exact nw.2.2.2 b j hb
    · by_cases z : k = i
      · subst z
        refine ⟨by rw [gR_sR, if_pos ⟨rfl, rfl⟩], x1.tr (fun b u v => rfl) (fun j => ?_)⟩
        show gR _ _ _ = gR _ _ _
        rw [gR_sR, if_neg (by omega)]
      · obtain ⟨u1, u2⟩ := sg k (by omega)
        refine ⟨by rw [gR_sR, if_neg (by omega), r1 _ _ (by omega)]; exact u1, u2.tr (fun b u v => s1 b (by omega)) (fun j => ?_)⟩
        show gR _ _ _ = gR _ _ _
        rw [gR_sR, if_neg (by omega), r1 _ _ (by omega)]
  · rintro H ⟨nw, f0, f1, f2, sg⟩
    refine At_iload_n (pc' := 26) iX2_init_25 rfl rfl ?_
    refine At_bipush (v := nI 6) (pc' := 28) iX2_init_26 rfl (by decide) ?_
    refine At_icmp_ge (t := 50) (pc' := 31) iX2_init_28 (by decide) rfl (fun _ => ?_) (fun z => absurd z (nI_nlt (Nat.le_refl _) (by decide)))
    exact At_retV iX2_init_50 rfl (K H nw f0 f1 f2 sg)
end Ctor2
