section Ctor4
variable {d : Nat} {h : Hp} {Q : Option Value → Hp → Prop}
def S10 : List (Nat × Nat) := ((14, 12) :: S5) ++ (((16, 9) :: S8) ++ (((12, 3) :: ([(4, 6)] ++ crd 6)) ++ ([(13, 1), (1, 64)] ++ ([(10, 2), (1, 200), (1, 202)] ++ ([(11, 6), (1, 16), (1, 256)] ++ [(11, 6), (1, 16), (1, 256)])))))
def D10 (h : Hp) : Prop := R5 h 2 ∧ IsX8 h.2.2 12 ∧ RC h 12 8 0 z16 z16 (fun _ => -1) (fun _ => []) (w00 0 8) ∧ (gI h 28 0 = nI 0 ∧ gI h 28 1 = nI 0 ∧ gR h 28 2 = some 29 ∧ ∀ k, k < 6 → gR h 29 k = some (30 + 3 * k) ∧ IsX1 h.2.2 (30 + 3 * k)) ∧ (gR h 48 0 = some 49 ∧ ∀ j, gI h 49 j = 0) ∧ (gR h 50 0 = some 51 ∧ gR h 50 1 = some 52) ∧ IsX1 h.2.2 53 ∧ IsX1 h.2.2 56
theorem k_X10 (hk : shp h 1 = (18, 8)) (hz : nxt h = 2) (K : ∀ h' : Hp, (∀ j, gI h' 0 j = gI h 0 j) → h'.2.2.2 = h.2.2.2 ++ S10 → D10 h' → (gR h' 1 0 = some 2 ∧ gR h' 1 1 = some 12 ∧ gR h' 1 2 = some 28 ∧ gR h' 1 3 = some 48 ∧ gR h' 1 4 = some 50 ∧ gR h' 1 5 = some 53 ∧ gR h' 1 6 = some 56 ∧ gR h' 1 7 = none) → Q none h') : Call (d + 4) MX10_init [.ref 1] h Q := by
  show At (d + 4) MX10_init 0 [.ref 1] [] h Q
  refine At_aload_n (pc' := 1) iX10_init_0 rfl rfl ?_
  refine At_oinit (pc' := 4) iX10_init_1 rfl m_10_1 (Nat.le_of_ble_eq_true rfl) ?_
  refine At_aload_n (pc' := 5) iX10_init_4 rfl rfl ?_
  refine At_newO (c := 4) (N := 12) (z := 2) (pc' := 8) iX10_init_5 rfl rfl rfl hz (by decide) ?_
  refine At_dup (pc' := 9) iX10_init_8 rfl rfl ?_
  refine At_spec (pc' := 12) iX10_init_9 rfl m_10_9 (Or.inr rfl) rfl rfl (Nat.le_of_ble_eq_true rfl) (Nat.le_of_ble_eq_true rfl) ?_
  refine k_X5 (d := d + 2) (a := 2) (by rw [sh_new, hz]; rfl) (by rw [nx_new, hz]) (by decide) (fun h1 nw1 r5 => ?_)
  show At (d + 4) MX10_init 12 [.ref 1] [.ref 2, .ref 1] h1 Q
  have z1 : nxt h1 = 12 := by rw [nw1.nx, nx_new, hz]; rfl
  have k1 : shp h1 1 = (18, 8) := by rw [nw1.sh (by rw [nx_new, hz]; decide), sh_new, hz, if_neg (by decide)]; exact hk
  have i1 : ∀ j, gI h1 0 j = gI h 0 j := fun j => by rw [nw1.2.1 0 j (by decide), gI_new, hz, if_neg (by decide)]
  have l1' : h1.2.2.2 = h.2.2.2 ++ ((14, 12) :: S5) := by rw [nw1.1]; show (h.2.2.2 ++ [(14, 12)]) ++ S5 = _; rw [List.append_assoc]; rfl
  refine At_putR (pc' := 15) iX10_init_12 rfl f_10_10 (by rw [k1]) (Or.inr ⟨rfl, rfl⟩) (by decide) (by rw [z1]; decide) ?_
  refine At_aload_n (pc' := 16) iX10_init_15 rfl rfl ?_
  refine At_newO (c := 6) (N := 9) (z := 12) (pc' := 19) iX10_init_16 rfl rfl rfl (by rw [nxt_sR]; exact z1) (by decide) ?_
  refine At_dup (pc' := 20) iX10_init_19 rfl rfl ?_
  refine At_spec (pc' := 23) iX10_init_20 rfl m_10_18 (Or.inl rfl) rfl rfl (Nat.le_of_ble_eq_true rfl) (Nat.le_of_ble_eq_true rfl) ?_
  refine k_X8 (d := d) (a := 12) (by rw [sh_new, nxt_sR, z1]; rfl) (by rw [nx_new, nxt_sR, z1]) (by decide) (fun h2 nw2 x8 rc8 => ?_)
  show At (d + 4) MX10_init 23 [.ref 1] [.ref 12, .ref 1] h2 Q
  have w2 := row0 z1 (by decide) nw2
  have rw2 := row1 z1 (by decide) nw2
  have z2 : nxt h2 = 28 := w2.2.2.2.2
  have k2 : shp h2 1 = (18, 8) := w2.2.1.trans k1
  have s2 : Sm 2 12 h1 h2 := Sm.step z1 nw2
  refine At_putR (pc' := 26) iX10_init_23 rfl f_10_19 (by rw [k2]) (Or.inr ⟨rfl, rfl⟩) (by decide) (by rw [z2]; decide) ?_
  refine At_aload_n (pc' := 27) iX10_init_26 rfl rfl ?_
  refine At_newO (c := 2) (N := 3) (z := 28) (pc' := 30) iX10_init_27 rfl rfl rfl (by rw [nxt_sR]; exact z2) (by decide) ?_
  refine At_dup (pc' := 31) iX10_init_30 rfl rfl ?_
  refine At_spec (pc' := 34) iX10_init_31 rfl m_10_25 (Or.inl rfl) rfl rfl (Nat.le_of_ble_eq_true rfl) (Nat.le_of_ble_eq_true rfl) ?_
  refine k_X2 (d := d) (a := 28) (by rw [sh_new, nxt_sR, z2]; rfl) (by rw [nx_new, nxt_sR, z2]) (by decide) (fun h3 nw3 y0 y1 y2 y3 => ?_)
  show At (d + 4) MX10_init 34 [.ref 1] [.ref 28, .ref 1] h3 Q
  have w3 := row0 z2 (by decide) nw3
  have rw3 := row1 z2 (by decide) nw3
  have z3 : nxt h3 = 48 := w3.2.2.2.2
  have k3 : shp h3 1 = (18, 8) := w3.2.1.trans k2
  have s3 : Sm 2 28 h2 h3 := Sm.step z2 nw3
  refine At_putR (pc' := 37) iX10_init_34 rfl f_10_26 (by rw [k3]) (Or.inr ⟨rfl, rfl⟩) (by decide) (by rw [z3]; decide) ?_
  refine At_aload_n (pc' := 38) iX10_init_37 rfl rfl ?_
  refine At_newO (c := 3) (N := 1) (z := 48) (pc' := 41) iX10_init_38 rfl rfl rfl (by rw [nxt_sR]; exact z3) (by decide) ?_
  refine At_dup (pc' := 42) iX10_init_41 rfl rfl ?_
  refine At_spec (pc' := 45) iX10_init_42 rfl m_10_32 (Or.inr rfl) rfl rfl (Nat.le_of_ble_eq_true rfl) (Nat.le_of_ble_eq_true rfl) ?_
  refine k_X3 (d := d + 3) (a := 48) (by rw [sh_new, nxt_sR, z3]; rfl) (by rw [nx_new, nxt_sR, z3]) (by decide) (fun h4 nw4 l0 l1 => ?_)
  show At (d + 4) MX10_init 45 [.ref 1] [.ref 48, .ref 1] h4 Q
  have w4 := row0 z3 (by decide) nw4
  have rw4 := row1 z3 (by decide) nw4
  have z4 : nxt h4 = 50 := w4.2.2.2.2
  have k4 : shp h4 1 = (18, 8) := w4.2.1.trans k3
  have s4 : Sm 2 48 h3 h4 := Sm.step z3 nw4
  refine At_putR (pc' := 48) iX10_init_45 rfl f_10_33 (by rw [k4]) (Or.inr ⟨rfl, rfl⟩) (by decide) (by rw [z4]; decide) ?_
  refine At_aload_n (pc' := 49) iX10_init_48 rfl rfl ?_
  refine At_newO (c := 0) (N := 2) (z := 50) (pc' := 52) iX10_init_49 rfl rfl rfl (by rw [nxt_sR]; exact z4) (by decide) ?_
  refine At_dup (pc' := 53) iX10_init_52 rfl rfl ?_
  refine At_spec (pc' := 56) iX10_init_53 rfl m_10_39 (Or.inr rfl) rfl rfl (Nat.le_of_ble_eq_true rfl) (Nat.le_of_ble_eq_true rfl) ?_
  refine k_X0 (d := d + 3) (a := 50) (by rw [sh_new, nxt_sR, z4]; rfl) (by rw [nx_new, nxt_sR, z4]) (by decide) (fun h5 nw5 b0 b1 => ?_)
  show At (d + 4) MX10_init 56 [.ref 1] [.ref 50, .ref 1] h5 Q
  have w5 := row0 z4 (by decide) nw5
  have rw5 := row1 z4 (by decide) nw5
  have z5 : nxt h5 = 53 := w5.2.2.2.2
  have k5 : shp h5 1 = (18, 8) := w5.2.1.trans k4
  have s5 : Sm 2 50 h4 h5 := Sm.step z4 nw5
  refine At_putR (pc' := 59) iX10_init_56 rfl f_10_40 (by rw [k5]) (Or.inr ⟨rfl, rfl⟩) (by decide) (by rw [z5]; decide) ?_
  refine At_aload_n (pc' := 60) iX10_init_59 rfl rfl ?_
  refine At_newO (c := 1) (N := 6) (z := 53) (pc' := 63) iX10_init_60 rfl rfl rfl (by rw [nxt_sR]; exact z5) (by decide) ?_
  refine At_dup (pc' := 64) iX10_init_63 rfl rfl ?_
  refine At_spec (pc' := 67) iX10_init_64 rfl m_10_46 (Or.inr rfl) rfl rfl (Nat.le_of_ble_eq_true rfl) (Nat.le_of_ble_eq_true rfl) ?_
  refine k_X1 (d := d + 1) (a := 53) (by rw [sh_new, nxt_sR, z5]; rfl) (by rw [nx_new, nxt_sR, z5]) (by decide) (fun h6 nw6 c53 _ _ _ _ _ _ => ?_)
  show At (d + 4) MX10_init 67 [.ref 1] [.ref 53, .ref 1] h6 Q
  have w6 := row0 z5 (by decide) nw6
  have rw6 := row1 z5 (by decide) nw6
  have z6 : nxt h6 = 56 := w6.2.2.2.2
  have k6 : shp h6 1 = (18, 8) := w6.2.1.trans k5
  have s6 : Sm 2 53 h5 h6 := Sm.step z5 nw6
  refine At_putR (pc' := 70) iX10_init_67 rfl f_10_47 (by rw [k6]) (Or.inr ⟨rfl, rfl⟩) (by decide) (by rw [z6]; decide) ?_
  refine At_aload_n (pc' := 71) iX10_init_70 rfl rfl ?_
  refine At_newO (c := 1) (N := 6) (z := 56) (pc' := 74) iX10_init_71 rfl rfl rfl (by rw [nxt_sR]; exact z6) (by decide) ?_
  refine At_dup (pc' := 75) iX10_init_74 rfl rfl ?_
  refine At_spec (pc' := 78) iX10_init_75 rfl m_10_46 (Or.inr rfl) rfl rfl (Nat.le_of_ble_eq_true rfl) (Nat.le_of_ble_eq_true rfl) ?_
  refine k_X1 (d := d + 1) (a := 56) (by rw [sh_new, nxt_sR, z6]; rfl) (by rw [nx_new, nxt_sR, z6]) (by decide) (fun h7 nw7 c56 _ _ _ _ _ _ => ?_)
  show At (d + 4) MX10_init 78 [.ref 1] [.ref 56, .ref 1] h7 Q
  have w7 := row0 z6 (by decide) nw7
  have rw7 := row1 z6 (by decide) nw7
  have z7 : nxt h7 = 59 := w7.2.2.2.2
  have k7 : shp h7 1 = (18, 8) := w7.2.1.trans k6
  have s7 : Sm 2 56 h6 h7 := Sm.step z6 nw7
  refine At_putR (pc' := 81) iX10_init_78 rfl f_10_51 (by rw [k7]) (Or.inr ⟨rfl, rfl⟩) (by decide) (by rw [z7]; decide) ?_
  refine At_aload_n (pc' := 82) iX10_init_81 rfl rfl ?_
  refine At_aconst_null (pc' := 83) iX10_init_82 rfl ?_
  refine At_putN (pc' := 86) iX10_init_83 rfl f_10_54 (by rw [shp_sR, k7]) (Or.inl rfl) (by decide) ?_
  refine At_retV iX10_init_86 rfl ?_
  have s8 : Sm 2 59 h7 (sR (sR h7 1 6 (some 56)) 1 7 none) := fun b u v => ⟨fun j => rfl, fun j => rfl, fun j => by rw [gR_sR, if_neg (by omega), gR_sR, if_neg (by omega)], rfl⟩
  have t7 := s8
  have t6 := (s7.trans (s8.le (by decide) (by decide)))
  have t5 := (s6.trans (t6.le (by decide) (by decide)))
  have t4 := (s5.trans (t5.le (by decide) (by decide)))
  have t3 := (s4.trans (t4.le (by decide) (by decide)))
  have t2 := (s3.trans (t3.le (by decide) (by decide)))
  have t1 := (s2.trans (t2.le (by decide) (by decide)))
  refine K _ (fun j => ?_) ?_ ⟨r5.tr (t1.le (by decide) (by decide)), x8.sm (t2.le (by decide) (by decide)), rc8.tr (fun b j u v _ => (t2 b (by omega) (by omega)).1 j) (fun b j u v => (t2 b (by omega) (by omega)).2.1 j), ⟨?_, ?_, ?_, fun k hk => ⟨?_, ?_⟩⟩, ⟨?_, fun j => ?_⟩, ⟨?_, ?_⟩, c53.sm (t6.le (by decide) (by decide)), c56.sm (t7.le (by decide) (by decide))⟩ ⟨?_, ?_, ?_, ?_, ?_, ?_, ?_, ?_⟩
  · rw [gI_sR, gI_sR, w7.1, w6.1, w5.1, w4.1, w3.1, w2.1, i1]
  · show h7.2.2.2 = _
    rw [w7.2.2.2.1, w6.2.2.2.1, w5.2.2.2.1, w4.2.2.2.1, w3.2.2.2.1, w2.2.2.2.1, l1']
    simp [S10, List.append_assoc]
  · rw [(t3 28 (by decide) (by decide)).1]; exact y0
  · rw [(t3 28 (by decide) (by decide)).1]; exact y1
  · rw [(t3 28 (by decide) (by decide)).2.2.1]; exact y2
  · rw [(t3 29 (by decide) (by decide)).2.2.1]; exact (y3 k hk).1
  · exact (y3 k hk).2.sm (t3.le (by omega) (by omega))
  · rw [(t4 48 (by decide) (by decide)).2.2.1]; exact l0
  · rw [(t4 49 (by decide) (by decide)).1]; exact l1 j
  · rw [(t5 50 (by decide) (by decide)).2.2.1]; exact b0
  · rw [(t5 50 (by decide) (by decide)).2.2.1]; exact b1
  · rw [gR_sR, if_neg (by decide), gR_sR, if_neg (by decide), rw7, if_neg (by decide), rw6, if_neg (by decide), rw5, if_neg (by decide), rw4, if_neg (by decide), rw3, if_neg (by decide), rw2, if_pos rfl]
  · rw [gR_sR, if_neg (by decide), gR_sR, if_neg (by decide), rw7, if_neg (by decide), rw6, if_neg (by decide), rw5, if_neg (by decide), rw4, if_neg (by decide), rw3, if_pos rfl]
  · rw [gR_sR, if_neg (by decide), gR_sR, if_neg (by decide), rw7, if_neg (by decide), rw6, if_neg (by decide), rw5, if_neg (by decide), rw4, if_pos rfl]
  · rw [gR_sR, if_neg (by decide), gR_sR, if_neg (by decide), rw7, if_neg (by decide), rw6, if_neg (by decide), rw5, if_pos rfl]
  · rw [gR_sR, if_neg (by decide), gR_sR, if_neg (by decide), rw7, if_neg (by decide), rw6, if_pos rfl]
  · rw [gR_sR, if_neg (by decide), gR_sR, if_neg (by decide), rw7, if_pos rfl]
  · rw [gR_sR, if_neg (by decide), gR_sR, if_pos ⟨rfl, rfl⟩]
  · rw [gR_sR, if_pos ⟨rfl, rfl⟩]
end Ctor4
