section Ctor3
variable {d a : Nat} {h : Hp} {Q : Option Value → Hp → Prop}
def S5 : List (Nat × Nat) := [(17, 6), (1, 401), (1, 401), (1, 401), (2, 400), (15, 2), (1, 200), (1, 4), (1, 4)]
def R5 (h : Hp) (a : Nat) : Prop := gI h a 0 = nI 0 ∧ gI h a 1 = -1 ∧ gR h a 2 = some (a + 1) ∧ gR h a 3 = some (a + 6) ∧ gR h a 10 = some (a + 8) ∧ gR h a 11 = some (a + 9) ∧ gI h (a + 1) 0 = nI 0 ∧ gR h (a + 1) 2 = some (a + 2) ∧ gR h (a + 1) 3 = some (a + 3) ∧ gR h (a + 1) 4 = some (a + 4) ∧ gR h (a + 1) 5 = some (a + 5) ∧ gR h (a + 6) 1 = some (a + 7)
theorem k_X5 (hk : shp h a = (14, 12)) (hz : nxt h = a + 1) (h9 : a < 600000) (K : ∀ h' : Hp, Nw h h' a S5 → R5 h' a → Q none h') : Call (d + 1) MX5_init [.ref a] h Q := by
  show At (d + 1) MX5_init 0 [.ref a] [] h Q
  refine At_aload_n (pc' := 1) iX5_init_0 rfl rfl ?_
  refine At_oinit (pc' := 4) iX5_init_1 rfl m_5_3 (Nat.le_of_ble_eq_true rfl) ?_
  refine At_aload_n (pc' := 5) iX5_init_4 rfl rfl ?_
  refine At_iconst (v := nI 0) (pc' := 6) iX5_init_5 rfl (by decide) ?_
  refine At_putI (pc' := 9) iX5_init_6 rfl f_5_9 (by simp [Nat.add_assoc, sh_new, shp_sI, shp_sJ, shp_sR, nx_new, nxt_sI, nxt_sJ, nxt_sR, hz, hk]) (Or.inr ⟨rfl, rfl⟩) (by decide) ?_
  refine At_aload_n (pc' := 10) iX5_init_9 rfl rfl ?_
  refine At_iconst (v := (-1)) (pc' := 11) iX5_init_10 rfl (by decide) ?_
  refine At_putI (pc' := 14) iX5_init_11 rfl f_5_15 (by simp [Nat.add_assoc, sh_new, shp_sI, shp_sJ, shp_sR, nx_new, nxt_sI, nxt_sJ, nxt_sR, hz, hk]) (Or.inr ⟨rfl, rfl⟩) (by decide) ?_
  refine At_aload_n (pc' := 15) iX5_init_14 rfl rfl ?_
  refine At_newO (c := 7) (N := 6) (z := a + 1) (pc' := 18) iX5_init_15 rfl rfl rfl (by (try simp only [nx_new, nxt_sI, nxt_sJ, nxt_sR]); omega) (by omega) ?_
  refine genA (P := fun H => Nw h H a [(17, 6)] ∧ gI H a 0 = nI 0 ∧ gI H a 1 = -1 ∧ shp H (a + 1) = (17, 6)) ⟨⟨rfl, fun b j hb => ?_, fun b j hb => ?_, fun b j hb => ?_⟩, ?_, ?_, ?_⟩ ?_
  · simp [Nat.add_assoc, gI_new, gI_sR, gI_sI, nx_new, nxt_sR, nxt_sI, hz, show ¬ b = a + 1 by omega, show ¬ b = a by omega]
  · simp [Nat.add_assoc, gJ_new, gJ_sR, gJ_sI, nx_new, nxt_sR, nxt_sI, hz, show ¬ b = a + 1 by omega]
  · simp [Nat.add_assoc, gR_new, gR_sR, gR_sI, nx_new, nxt_sR, nxt_sI, hz, show ¬ b = a + 1 by omega, show ¬ b = a by omega]
  · simp [Nat.add_assoc, gI_new, gI_sR, gI_sI, nx_new, nxt_sR, nxt_sI, hz]
  · simp [Nat.add_assoc, gI_new, gI_sR, gI_sI, nx_new, nxt_sR, nxt_sI, hz]
  · simp [Nat.add_assoc, sh_new, shp_sI, nxt_sI, hz]
  rintro H ⟨nw, f0, f1, k1⟩
  have hzH : nxt H = a + 2 := by rw [nw.nx, hz]; rfl
  have hkH : shp H a = (14, 12) := by rw [nw.sh (by omega)]; exact hk
  refine At_dup (pc' := 19) iX5_init_18 rfl rfl ?_
  refine At_spec (pc' := 22) iX5_init_19 rfl m_5_20 (Or.inr rfl) rfl rfl (Nat.le_of_ble_eq_true rfl) (Nat.le_of_ble_eq_true rfl) ?_
  refine k_X9 (d := d) k1 hzH (by omega) (fun h1 nw1 c0 c2 c3 c4 c5 => ?_)
  show At (d + 1) MX5_init 22 [.ref a] [.ref (a + 1), .ref a] h1 Q
  have hz1 : nxt h1 = a + 6 := by rw [nw1.nx, hzH]; rfl
  have hk1 : shp h1 a = (14, 12) := by rw [nw1.sh (by omega)]; exact hkH
  have nwB := nw.trans nw1 (by omega)
  have e0 : ∀ k, gI h1 a k = gI H a k := fun k => nw1.2.1 a k (by omega)
  refine At_putR (pc' := 25) iX5_init_22 rfl f_5_21 (by simp [Nat.add_assoc, sh_new, shp_sI, shp_sJ, shp_sR, nx_new, nxt_sI, nxt_sJ, nxt_sR, hz1, hk1]) (Or.inr ⟨rfl, rfl⟩) (by decide) (by (try simp only [nx_new, nxt_sI, nxt_sJ, nxt_sR]); omega) ?_
  refine At_aload_n (pc' := 26) iX5_init_25 rfl rfl ?_
  refine At_newO (c := 5) (N := 2) (z := a + 6) (pc' := 29) iX5_init_26 rfl rfl rfl (by (try simp only [nx_new, nxt_sI, nxt_sJ, nxt_sR]); omega) (by omega) ?_
  refine genA (P := fun H => Nw h H a [(17, 6), (1, 401), (1, 401), (1, 401), (2, 400), (15, 2)] ∧ gI H a 0 = nI 0 ∧ gI H a 1 = -1 ∧ gR H a 2 = some (a + 1) ∧ gI H (a + 1) 0 = nI 0 ∧ gR H (a + 1) 2 = some (a + 2) ∧ gR H (a + 1) 3 = some (a + 3) ∧ gR H (a + 1) 4 = some (a + 4) ∧ gR H (a + 1) 5 = some (a + 5) ∧ shp H (a + 6) = (15, 2)) ⟨⟨?_, fun b j hb => ?_, fun b j hb => ?_, fun b j hb => ?_⟩, ?_, ?_, ?_, ?_, ?_, ?_, ?_, ?_, ?_⟩ ?_
  · show h1.2.2.2 ++ [(15, 2)] = _
    rw [nwB.1]; simp
  · simp [Nat.add_assoc, gI_new, gI_sR, nxt_sR, hz1, show ¬ b = a + 6 by omega]
    exact nwB.2.1 b j hb
  · simp [Nat.add_assoc, gJ_new, gJ_sR, nxt_sR, hz1, show ¬ b = a + 6 by omega]
    exact nwB.2.2.1 b j hb
  · simp [Nat.add_assoc, gR_new, gR_sR, nxt_sR, hz1, show ¬ b = a + 6 by omega, show ¬ b = a by omega]
    exact nwB.2.2.2 b j hb
  · simp [Nat.add_assoc, gI_new, gI_sR, nxt_sR, hz1, e0, f0]
  · simp [Nat.add_assoc, gI_new, gI_sR, nxt_sR, hz1, e0, f1]
  · simp [Nat.add_assoc, gR_new, gR_sR, nxt_sR, hz1]
  · simp [Nat.add_assoc, gI_new, gI_sR, nxt_sR, hz1, c0]
  · simp [Nat.add_assoc, gR_new, gR_sR, nxt_sR, hz1]; exact c2
  · simp [Nat.add_assoc, gR_new, gR_sR, nxt_sR, hz1]; exact c3
  · simp [Nat.add_assoc, gR_new, gR_sR, nxt_sR, hz1]; exact c4
  · simp [Nat.add_assoc, gR_new, gR_sR, nxt_sR, hz1]; exact c5
  · simp [Nat.add_assoc, sh_new, shp_sR, nxt_sR, hz1]
  rintro H2 ⟨nw2, p0, p1, p2, q0, q2, q3, q4, q5, k6⟩
  have hz2 : nxt H2 = a + 7 := by rw [nw2.nx, hz]; rfl
  have hk2 : shp H2 a = (14, 12) := by rw [nw2.sh (by omega)]; exact hk
  refine At_dup (pc' := 30) iX5_init_29 rfl rfl ?_
  refine At_spec (pc' := 33) iX5_init_30 rfl m_5_27 (Or.inr rfl) rfl rfl (Nat.le_of_ble_eq_true rfl) (Nat.le_of_ble_eq_true rfl) ?_
  refine k_X7 (d := d) k6 hz2 (by omega) (fun h3 nw3 x7 _ => ?_)
  show At (d + 1) MX5_init 33 [.ref a] [.ref (a + 6), .ref a] h3 Q
  have hz3 : nxt h3 = a + 8 := by rw [nw3.nx, hz2]; rfl
  have hk3 : shp h3 a = (14, 12) := by rw [nw3.sh (by omega)]; exact hk2
  have nwC := nw2.trans nw3 (by omega)
  have i3 : ∀ b k, b < a + 6 → gI h3 b k = gI H2 b k := fun b k hb => nw3.2.1 b k hb
  have r3 : ∀ b k, b < a + 6 → gR h3 b k = gR H2 b k := fun b k hb => nw3.2.2.2 b k hb
  have x71 : gR h3 (a + 6) 1 = some (a + 7) := x7.2.2
  refine At_putR (pc' := 36) iX5_init_33 rfl f_5_28 (by simp [Nat.add_assoc, sh_new, shp_sI, shp_sJ, shp_sR, nx_new, nxt_sI, nxt_sJ, nxt_sR, hz3, hk3]) (Or.inr ⟨rfl, rfl⟩) (by decide) (by (try simp only [nx_new, nxt_sI, nxt_sJ, nxt_sR]); omega) ?_
  refine At_aload_n (pc' := 37) iX5_init_36 rfl rfl ?_
  refine At_bipush (v := nI 8) (pc' := 39) iX5_init_37 rfl (by decide) ?_
  refine At_putI (pc' := 42) iX5_init_39 rfl f_5_32 (by simp [Nat.add_assoc, sh_new, shp_sI, shp_sJ, shp_sR, nx_new, nxt_sI, nxt_sJ, nxt_sR, hz3, hk3]) (Or.inr ⟨rfl, rfl⟩) (by decide) ?_
  refine At_aload_n (pc' := 43) iX5_init_42 rfl rfl ?_
  refine At_iconst (v := (-1)) (pc' := 44) iX5_init_43 rfl (by decide) ?_
  refine At_putI (pc' := 47) iX5_init_44 rfl f_5_35 (by simp [Nat.add_assoc, sh_new, shp_sI, shp_sJ, shp_sR, nx_new, nxt_sI, nxt_sJ, nxt_sR, hz3, hk3]) (Or.inr ⟨rfl, rfl⟩) (by decide) ?_
  refine At_aload_n (pc' := 48) iX5_init_47 rfl rfl ?_
  refine At_iconst (v := nI 0) (pc' := 49) iX5_init_48 rfl (by decide) ?_
  refine At_putI (pc' := 52) iX5_init_49 rfl f_5_38 (by simp [Nat.add_assoc, sh_new, shp_sI, shp_sJ, shp_sR, nx_new, nxt_sI, nxt_sJ, nxt_sR, hz3, hk3]) (Or.inr ⟨rfl, rfl⟩) (by decide) ?_
  refine At_aload_n (pc' := 53) iX5_init_52 rfl rfl ?_
  refine At_iconst (v := nI 0) (pc' := 54) iX5_init_53 rfl (by decide) ?_
  refine At_putI (pc' := 57) iX5_init_54 rfl f_5_41 (by simp [Nat.add_assoc, sh_new, shp_sI, shp_sJ, shp_sR, nx_new, nxt_sI, nxt_sJ, nxt_sR, hz3, hk3]) (Or.inr ⟨rfl, rfl⟩) (by decide) ?_
  refine At_aload_n (pc' := 58) iX5_init_57 rfl rfl ?_
  refine At_iconst (v := nI 0) (pc' := 59) iX5_init_58 rfl (by decide) ?_
  refine At_putZ (pc' := 62) iX5_init_59 rfl f_5_44 (by simp [Nat.add_assoc, sh_new, shp_sI, shp_sJ, shp_sR, nx_new, nxt_sI, nxt_sJ, nxt_sR, hz3, hk3]) (Or.inr ⟨rfl, rfl⟩) (by decide) (by decide) ?_
  refine At_aload_n (pc' := 63) iX5_init_62 rfl rfl ?_
  refine At_iconst (v := nI 0) (pc' := 64) iX5_init_63 rfl (by decide) ?_
  refine At_putI (pc' := 67) iX5_init_64 rfl f_5_48 (by simp [Nat.add_assoc, sh_new, shp_sI, shp_sJ, shp_sR, nx_new, nxt_sI, nxt_sJ, nxt_sR, hz3, hk3]) (Or.inr ⟨rfl, rfl⟩) (by decide) ?_
  refine At_aload_n (pc' := 68) iX5_init_67 rfl rfl ?_
  refine At_iconst (v := nI 4) (pc' := 69) iX5_init_68 rfl (by decide) ?_
  refine At_newI (N := 4) (z := a + 8) (pc' := 71) iX5_init_69 rfl (by decide) (by decide) (by decide) (by (try simp only [nx_new, nxt_sI, nxt_sJ, nxt_sR]); omega) (by omega) ?_
  refine At_putR (pc' := 74) iX5_init_71 rfl f_5_51 (by simp [Nat.add_assoc, sh_new, shp_sI, shp_sJ, shp_sR, nx_new, nxt_sI, nxt_sJ, nxt_sR, hz3, hk3]) (Or.inr ⟨rfl, rfl⟩) (by decide) (by (try simp only [nx_new, nxt_sI, nxt_sJ, nxt_sR]); omega) ?_
  refine At_aload_n (pc' := 75) iX5_init_74 rfl rfl ?_
  refine At_iconst (v := nI 4) (pc' := 76) iX5_init_75 rfl (by decide) ?_
  refine At_newI (N := 4) (z := a + 9) (pc' := 78) iX5_init_76 rfl (by decide) (by decide) (by decide) (by (try simp only [nx_new, nxt_sI, nxt_sJ, nxt_sR]); omega) (by omega) ?_
  refine At_putR (pc' := 81) iX5_init_78 rfl f_5_55 (by simp [Nat.add_assoc, sh_new, shp_sI, shp_sJ, shp_sR, nx_new, nxt_sI, nxt_sJ, nxt_sR, hz3, hk3]) (Or.inr ⟨rfl, rfl⟩) (by decide) (by (try simp only [nx_new, nxt_sI, nxt_sJ, nxt_sR]); omega) ?_
  refine At_retV iX5_init_81 rfl ?_
  refine K _ ⟨?_, fun b j hb => ?_, fun b j hb => ?_, fun b j hb => ?_⟩ ⟨?_, ?_, ?_, ?_, ?_, ?_, ?_, ?_, ?_, ?_, ?_, ?_⟩
  · show ((h3.2.2.2 ++ [(1, 4)]) ++ [(1, 4)]) = _
    rw [nwC.1]; simp [S5]
  · simp [Nat.add_assoc, gI_new, gI_sI, gI_sR, nx_new, nxt_sR, nxt_sI, hz3, show ¬ b = a by omega, show ¬ b = a + 8 by omega, show ¬ b = a + 9 by omega]
    exact nwC.2.1 b j hb
  · simp [Nat.add_assoc, gJ_new, gJ_sI, gJ_sR, nx_new, nxt_sR, nxt_sI, hz3, show ¬ b = a by omega, show ¬ b = a + 8 by omega, show ¬ b = a + 9 by omega]
    exact nwC.2.2.1 b j hb
  · simp [Nat.add_assoc, gR_new, gR_sI, gR_sR, nx_new, nxt_sR, nxt_sI, hz3, show ¬ b = a by omega, show ¬ b = a + 8 by omega, show ¬ b = a + 9 by omega]
    exact nwC.2.2.2 b j hb
  · simp [Nat.add_assoc, gI_new, gI_sI, gI_sR, nx_new, nxt_sR, nxt_sI, hz3, i3, p0]
  · simp [Nat.add_assoc, gI_new, gI_sI, gI_sR, nx_new, nxt_sR, nxt_sI, hz3, i3, p1]
  · simp [Nat.add_assoc, gR_new, gR_sI, gR_sR, nx_new, nxt_sR, nxt_sI, hz3, r3, p2]
  · simp [Nat.add_assoc, gR_new, gR_sI, gR_sR, nx_new, nxt_sR, nxt_sI, hz3]
  · simp [Nat.add_assoc, gR_new, gR_sI, gR_sR, nx_new, nxt_sR, nxt_sI, hz3]
  · simp [Nat.add_assoc, gR_new, gR_sI, gR_sR, nx_new, nxt_sR, nxt_sI, hz3]
  · simp [Nat.add_assoc, gI_new, gI_sI, gI_sR, nx_new, nxt_sR, nxt_sI, hz3, i3, q0]
  · simp [Nat.add_assoc, gR_new, gR_sI, gR_sR, nx_new, nxt_sR, nxt_sI, hz3, r3, q2]
  · simp [Nat.add_assoc, gR_new, gR_sI, gR_sR, nx_new, nxt_sR, nxt_sI, hz3, r3, q3]
  · simp [Nat.add_assoc, gR_new, gR_sI, gR_sR, nx_new, nxt_sR, nxt_sI, hz3, r3, q4]
  · simp [Nat.add_assoc, gR_new, gR_sI, gR_sR, nx_new, nxt_sR, nxt_sI, hz3, r3, q5]
  · simp [Nat.add_assoc, gR_new, gR_sI, gR_sR, nx_new, nxt_sR, nxt_sI, hz3, x71]
-- rows kept
def Sm (lo hi : Nat) (h h' : Hp) : Prop := ∀ b, lo ≤ b → b < hi → (∀ j, gI h' b j = gI h b j) ∧ (∀ j, gJ h' b j = gJ h b j) ∧ (∀ j, gR h' b j = gR h b j) ∧ shp h' b = shp h b
theorem Sm.trans {lo hi : Nat} {h h1 h2 : Hp} (x : Sm lo hi h h1) (y : Sm lo hi h1 h2) : Sm lo hi h h2 := fun b u v => ⟨fun j => ((y b u v).1 j).trans ((x b u v).1 j), fun j => ((y b u v).2.1 j).trans ((x b u v).2.1 j), fun j => ((y b u v).2.2.1 j).trans ((x b u v).2.2.1 j), (y b u v).2.2.2.trans (x b u v).2.2.2⟩
theorem Sm.le {lo hi lo' hi' : Nat} {h h' : Hp} (x : Sm lo hi h h') (a : lo ≤ lo') (b : hi' ≤ hi) : Sm lo' hi' h h' := fun c u v => x c (by omega) (by omega)
theorem Sm.step {h h' : Hp} {k kd n z : Nat} {v : Option Nat} {s : List (Nat × Nat)} (hz : nxt h = z) (nw : Nw (newO (sR h 1 k v) kd n) h' z s) : Sm 2 z h h' := fun b u w => ⟨fun j => by rw [nw.2.1 b j w, gI_new, nxt_sR, hz, if_neg (by omega), gI_sR], fun j => by rw [nw.2.2.1 b j w, gJ_new, nxt_sR, hz, if_neg (by omega), gJ_sR], fun j => by rw [nw.2.2.2 b j w, gR_new, nxt_sR, hz, if_neg (by omega), gR_sR, if_neg (by omega)], by rw [nw.sh (by rw [nx_new, nxt_sR]; omega), sh_new, nxt_sR, hz, if_neg (by omega), shp_sR]⟩
theorem row1 {h h' : Hp} {k kd n z : Nat} {v : Option Nat} {s : List (Nat × Nat)} (hz : nxt h = z) (h1 : 1 < z) (nw : Nw (newO (sR h 1 k v) kd n) h' z s) (j : Nat) : gR h' 1 j = if j = k then v else gR h 1 j := by
  rw [nw.2.2.2 1 j h1, gR_new, nxt_sR, hz, if_neg (by omega), gR_sR]
  by_cases q : j = k
  · rw [if_pos ⟨rfl, q⟩, if_pos q]
  · rw [if_neg (fun z => q z.2), if_neg q]
theorem row0 {h h' : Hp} {k kd n z : Nat} {v : Option Nat} {s : List (Nat × Nat)} (hz : nxt h = z) (h1 : 1 < z) (nw : Nw (newO (sR h 1 k v) kd n) h' z s) : (∀ j, gI h' 0 j = gI h 0 j) ∧ shp h' 1 = shp h 1 ∧ shp h' 0 = shp h 0 ∧ h'.2.2.2 = h.2.2.2 ++ ([(kd, n)] ++ s) ∧ nxt h' = z + 1 + s.length := ⟨fun j => by rw [nw.2.1 0 j (by omega), gI_new, nxt_sR, hz, if_neg (by omega), gI_sR], by rw [nw.sh (by rw [nx_new, nxt_sR]; omega), sh_new, nxt_sR, hz, if_neg (by omega), shp_sR], by rw [nw.sh (by rw [nx_new, nxt_sR]; omega), sh_new, nxt_sR, hz, if_neg (by omega), shp_sR], by rw [nw.1]; show (h.2.2.2 ++ [(kd, n)]) ++ s = _; rw [List.append_assoc], by rw [nw.nx, nx_new, nxt_sR, hz]⟩
theorem R5.tr {h' : Hp} (x : R5 h a) (s : Sm a (a + 10) h h') : R5 h' a := by
  obtain ⟨x0, x1, x2, x3, x4, x5, x6, x7, x8, x9, y0, y1⟩ := x
  have gi : ∀ b j, a ≤ b → b < a + 10 → gI h' b j = gI h b j := fun b j u v => (s b u v).1 j
  have gr : ∀ b j, a ≤ b → b < a + 10 → gR h' b j = gR h b j := fun b j u v => (s b u v).2.2.1 j
  exact ⟨by rw [gi _ _ (by omega) (by omega)]; exact x0, by rw [gi _ _ (by omega) (by omega)]; exact x1, by rw [gr _ _ (by omega) (by omega)]; exact x2, by rw [gr _ _ (by omega) (by omega)]; exact x3, by rw [gr _ _ (by omega) (by omega)]; exact x4, by rw [gr _ _ (by omega) (by omega)]; exact x5, by rw [gi _ _ (by omega) (by omega)]; exact x6, by rw [gr _ _ (by omega) (by omega)]; exact x7, by rw [gr _ _ (by omega) (by omega)]; exact x8, by rw [gr _ _ (by omega) (by omega)]; exact x9, by rw [gr _ _ (by omega) (by omega)]; exact y0, by rw [gr _ _ (by omega) (by omega)]; exact y1⟩
theorem IsX1.sm {h' : Hp} (x : IsX1 h.2.2 a) (s : Sm a (a + 3) h h') : IsX1 h'.2.2 a := x.tr (fun b u v => (s b u v).2.2.2) (fun k => (s a (by omega) (by omega)).2.2.1 k)
theorem IsX8.sm {h' : Hp} (x : IsX8 h.2.2 a) (s : Sm a (a + 16) h h') : IsX8 h'.2.2 a := by
  obtain ⟨x0, x1, x2, x3, x4, x5, x6, x7, x8, x9, y0, y1⟩ := x
  have kk : ∀ b, a ≤ b → b < a + 16 → kd h'.2.2 b = kd h.2.2 b := fun b u v => (s b u v).2.2.2
  have rr : ∀ b k, a ≤ b → b < a + 16 → rf h'.2.2 b k = rf h.2.2 b k := fun b k u v => (s b u v).2.2.1 k
  exact ⟨by rw [kk _ (by omega) (by omega)]; exact x0, by rw [kk _ (by omega) (by omega)]; exact x1, by rw [kk _ (by omega) (by omega)]; exact x2, by rw [kk _ (by omega) (by omega)]; exact x3, by rw [kk _ (by omega) (by omega)]; exact x4, by rw [rr _ _ (by omega) (by omega)]; exact x5, by rw [rr _ _ (by omega) (by omega)]; exact x6, by rw [rr _ _ (by omega) (by omega)]; exact x7, by rw [rr _ _ (by omega) (by omega)]; exact x8, by rw [rr _ _ (by omega) (by omega)]; exact x9, y0.sm (s.le (by omega) (by omega)), fun k hk => ⟨by rw [rr _ _ (by omega) (by omega)]; exact (y1 k hk).1, (y1 k hk).2.tr (fun b u v => kk b (by omega) (by omega)) (fun j => rr _ _ (by omega) (by omega))⟩⟩
end Ctor3
