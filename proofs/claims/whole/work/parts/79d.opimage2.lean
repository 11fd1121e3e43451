section OpImg2
variable {h : Hp} {L : Nat} {xs : Nat → Int32}
theorem op_image1 (I : Inv L xs h) : Op MX10_image MX11_image [.int (nI 1)] h (Inv L xs) := by
  obtain ⟨⟨hL, rt, rf, rl, ri, rs, rx⟩, n, sl, c, q, nm, sg, w, v, rc, rm, hs⟩ := id I
  have tail : ∀ H : Hp, Lay H.2.2 → gR H 1 7 = some 77 → IsX8 H.2.2 77 → (∀ b j, b < 77 → gI H b j = gI h b j) → (∀ b j, b < 77 → gJ H b j = gJ h b j) → (nxt H ≤ 200 ∧ tot H ≤ L + 200000) → shp H 0 = shp h 0 → At 39 MX10_image 22 [.ref 1, .int (nI 1)] [] H (fun v h1 => ∃ r : Int32, v = some (.int r) ∧ Call 39 MX11_image [.ref 59, .int (nI 1)] h1 (fun v' h2 => v' = some (.int r) ∧ Inv L xs h2)) := by
    intro H lay r17 x8 g gj sz s0
    refine At_aload_n (pc' := 23) iX10_image_22 rfl rfl ?_
    refine At_getR (b := 77) (pc' := 26) iX10_image_23 rfl f_10_54 (kdK rfl (kd_1 lay)) (by decide) r17 ?_
    refine At_aload_n (pc' := 27) iX10_image_26 rfl rfl ?_
    refine At_getR (b := 12) (pc' := 30) iX10_image_27 rfl f_10_19 (kdK rfl (kd_1 lay)) (by decide) (rfH rfl (rf_1_1 lay)) ?_
    refine At_virt (pc' := 33) iX10_image_30 rfl m_10_260 rfl rfl (kdK rfl x8.1) (Nat.le_of_ble_eq_true rfl) (Nat.le_of_ble_eq_true rfl) ?_
    refine s_copy8 (d := 37) lay rfl (a := 77) (x := 12) x8 (isX8_12 lay) (by omega) (rc.tr (fun b j u v _ => g b j (by omega)) (fun b j u v => gj b j (by omega))) (fun h3 e3 g3 gj3 rc3 => ?_)
    show At 39 MX10_image 33 [.ref 1, .int (nI 1)] [] h3 _
    refine At_iconst (v := nI 1) (pc' := 34) iX10_image_33 rfl (by decide) ?_
    refine At_retZ iX10_image_34 rfl (Or.inr (by decide)) ⟨_, rfl, im_take I v rm (by rw [e3]; exact lay) (fun b j u => (g3 b j (by omega)).trans (g b j u)) (fun b j u => (gj3 b j (by omega)).trans (gj b j u)) (by rw [gR_e e3]; exact r17) (by rw [nxt_e e3, tot_e e3]; exact sz) (by rw [shp_e e3]; exact s0) (by rw [e3]; exact x8) rc3⟩
  show At 39 MX10_image 0 [.ref 1, .int (nI 1)] [] h _
  refine At_iload_n (pc' := 1) iX10_image_0 rfl rfl ?_
  refine At_if_eq (t := 35) (pc' := 4) iX10_image_1 (by decide) rfl (fun z => absurd z (by decide)) (fun _ => ?_)
  refine At_aload_n (pc' := 5) iX10_image_4 rfl rfl ?_
  refine At_getN (pc' := 8) iX10_image_5 rfl f_10_54 (kdK rfl (kd_1 hL)) (by decide) ?_
  refine At_nn (t := 22) (pc' := 11) iX10_image_8 (by decide) rfl (fun z => ?_) (fun z => ?_)
  · rcases ri with ⟨i1, _⟩ | ⟨i1, i2, i3, _⟩
    · exact absurd i1 z
    · rcases rs with ⟨j1, _⟩ | ⟨_, j2⟩
      · exact absurd j1 z
      · exact tail h hL i1 i3 (fun _ _ _ => rfl) (fun _ _ _ => rfl) j2 rfl
  · rcases rs with ⟨_, nz, tz⟩ | ⟨j1, _⟩
    · refine At_aload_n (pc' := 12) iX10_image_11 rfl rfl ?_
      refine At_newO (c := 6) (N := 9) (z := 77) (pc' := 15) iX10_image_12 rfl rfl rfl nz (by decide) ?_
      refine At_dup (pc' := 16) iX10_image_15 rfl rfl ?_
      refine At_spec (pc' := 19) iX10_image_16 rfl m_10_18 (Or.inl rfl) rfl rfl (Nat.le_of_ble_eq_true rfl) (Nat.le_of_ble_eq_true rfl) ?_
      refine k_X8 (d := 35) (a := 77) (by rw [sh_new, nz]; rfl) (by rw [nx_new, nz]) (by decide) (fun h1 nw x8 _ => ?_)
      show At 39 MX10_image 19 [.ref 1, .int (nI 1)] [.ref 77, .ref 1] h1 _
      have lay1 := Lay.nw hL nz nw
      have z1 : nxt h1 = 93 := by rw [nw.nx, nx_new, nz]; rfl
      have t1 : tot h1 ≤ L + 200000 := by
        have e : tot h1 = tot h + (9 + (S8.map fun q => q.2).sum) := by
          unfold tot
          rw [nw.1]
          show (List.map (fun q : Nat × Nat => q.2) ((h.2.2.2 ++ [(16, 9)]) ++ S8)).sum = _
          rw [List.map_append, List.map_append, List.sum_append, List.sum_append, Nat.add_assoc]
          rfl
        have k : 9 + (S8.map fun q => q.2).sum ≤ 100000 := by decide
        omega
      refine At_putR (pc' := 22) iX10_image_19 rfl f_10_54 (kdK rfl (kd_1 lay1)) (Or.inl rfl) (by decide) (by rw [z1]; decide) ?_
      refine tail _ (Lay.sR17 lay1 _) (by rw [gR_sR, if_pos ⟨rfl, rfl⟩]) (x8.sm (fun b u v => ⟨fun _ => rfl, fun _ => rfl, fun j => by rw [gR_sR, if_neg (by omega)], rfl⟩)) (fun b j u => by rw [gI_sR, nw.2.1 b j u, gI_new, nz, if_neg (by omega)]) (fun b j u => by rw [gJ_sR, nw.2.2.1 b j u, gJ_new, nz, if_neg (by omega)]) ⟨by rw [nxt_sR, z1]; decide, t1⟩ (by rw [shp_sR, nw.sh (by rw [nx_new, nz]; decide), sh_new, nz, if_neg (by decide)])
    · exact absurd (j1.symm.trans z) (by decide)
theorem op_image0 (I : Inv L xs h) : Op MX10_image MX11_image [.int (nI 0)] h (Inv L xs) := by
  obtain ⟨⟨hL, rt, rf, rl, ri, rs, rx⟩, n, sl, c, q, nm, sg, w, v, rc, rm, hs⟩ := id I
  show At 39 MX10_image 0 [.ref 1, .int (nI 0)] [] h _
  refine At_iload_n (pc' := 1) iX10_image_0 rfl rfl ?_
  refine At_if_eq (t := 35) (pc' := 4) iX10_image_1 (by decide) rfl (fun _ => ?_) (fun z => absurd (by decide) z)
  refine At_aload_n (pc' := 36) iX10_image_35 rfl rfl ?_
  refine At_getN (pc' := 39) iX10_image_36 rfl f_10_54 (kdK rfl (kd_1 hL)) (by decide) ?_
  refine At_nn (t := 44) (pc' := 42) iX10_image_39 (by decide) rfl (fun z => ?_) (fun z => ?_)
  · rcases id ri with ⟨i1, _⟩ | ⟨i1, i2, i3, n', sl', c', q', nm', sg', w', v', rc', rm'⟩
    · exact absurd i1 z
    · refine At_aload_n (pc' := 45) iX10_image_44 rfl rfl ?_
      refine At_getR (b := 12) (pc' := 48) iX10_image_45 rfl f_10_19 (kdK rfl (kd_1 hL)) (by decide) (rfH rfl (rf_1_1 hL)) ?_
      refine At_aload_n (pc' := 49) iX10_image_48 rfl rfl ?_
      refine At_getR (b := 77) (pc' := 52) iX10_image_49 rfl f_10_54 (kdK rfl (kd_1 hL)) (by decide) i1 ?_
      refine At_virt (pc' := 55) iX10_image_52 rfl m_10_260 rfl rfl (kdK rfl (kd_12 hL)) (Nat.le_of_ble_eq_true rfl) (Nat.le_of_ble_eq_true rfl) ?_
      refine s_copy8 (d := 37) hL rfl (a := 12) (x := 77) (isX8_12 hL) i3 (by omega) rc' (fun h1 e1 g1 gj1 rc1 => ?_)
      show At 39 MX10_image 55 [.ref 1, .int (nI 0)] [] h1 _
      have lay1 : Lay h1.2.2 := by rw [e1]; exact hL
      refine At_aload_n (pc' := 56) iX10_image_55 rfl rfl ?_
      refine At_getR (b := 28) (pc' := 59) iX10_image_56 rfl f_10_26 (kdK rfl (kd_1 lay1)) (by decide) (rfH rfl (rf_1_2 lay1)) ?_
      refine At_virt (pc' := 62) iX10_image_59 rfl m_10_64 rfl rfl (kdK rfl (kd_28 lay1)) (Nat.le_of_ble_eq_true rfl) (Nat.le_of_ble_eq_true rfl) ?_
      refine c_X2_forget (d := 38) lay1 rfl ?_
      show At 39 MX10_image 62 [.ref 1, .int (nI 0)] [] (w_X2_forget h1) _
      refine At_iconst (v := nI 1) (pc' := 63) iX10_image_62 rfl (by decide) ?_
      refine At_retZ iX10_image_63 rfl (Or.inr (by decide)) ⟨_, rfl, ?_⟩
      have gw : ∀ b j, (b = 28 → j ≠ 0) → gI (w_X2_forget h1) b j = gI h1 b j := fun b j k => by rw [w_forget, if_neg (fun z => k z.1 z.2)]
      have gw0 : gI (w_X2_forget h1) 28 0 = nI 0 := rfl
      have gwj : ∀ b j, gJ (w_X2_forget h1) b j = gJ h1 b j := fun _ _ => rfl
      have eW : (w_X2_forget h1).2.2 = h.2.2 := e1
      generalize w_X2_forget h1 = W at *
      refine s_imgBack (d := 39) (by rw [eW]; exact hL) rfl (by rw [gw _ _ (by omega), g1 _ _ (by omega)]; exact i2) (fun h2 e2 g2 k60 f4 f3 => ⟨rfl, ?_⟩)
      have e22 : h2.2.2 = h.2.2 := by rw [e2]; exact eW
      have gg : ∀ b j, ¬ (12 ≤ b ∧ b < 28) → (b = 28 → j ≠ 0) → b ≠ 60 → (b = 59 → j ≠ 4 ∧ j ≠ 3) → gI h2 b j = gI h b j := fun b j a1 a2 a3 a4 => by rw [g2 b j a3 a4, gw b j a2, g1 b j (by omega)]
      have ggj : ∀ b j, ¬ (12 ≤ b ∧ b < 28) → gJ h2 b j = gJ h b j := fun b j a1 => by rw [gJ_e2 e2, gwj, gj1 b j (by omega)]
      obtain ⟨nx, u1, u2⟩ := hs.nx
      refine ⟨⟨by rw [e22]; exact hL, rt.tr (fun j => gg _ _ (by omega) (by omega) (by omega) (by omega)) (fun j => gg _ _ (by omega) (by omega) (by omega) (by omega)) (fun j => gg _ _ (by omega) (by omega) (by omega) (by omega)) (gg _ _ (by omega) (by omega) (by omega) (by omega)), ?_, fun j hj => ?_, Or.inr ⟨by rw [gR_e e22]; exact i1, f4, by rw [e22]; exact i3, n', sl', c', q', nm', sg', w', v', rc'.tr (fun b j u v _ => gg b j (by omega) (by omega) (by omega) (by omega)) (fun b j u v => ggj b j (by omega)), rm'.tr (fun j => ?_)⟩, rs.tr e22, rx.tr e22 (fun j => gg _ _ (by omega) (by omega) (by omega) (by omega))⟩, n', sl', c', q', nm', sg', w', v', rc1.tr (fun b j u v _ => by rw [g2 b j (by omega) (by omega), gw b j (by omega)]) (fun b j u v => by rw [gJ_e2 e2, gwj]), ?_, HS.none (by rw [g2 _ _ (by omega) (by omega)]; exact gw0) f3 u1 ?_⟩
      · unfold FL
        rw [gg _ _ (by omega) (by omega) (by omega) (by omega), gg _ _ (by omega) (by omega) (by omega) (by omega), gg _ _ (by omega) (by omega) (by omega) (by omega), gg _ _ (by omega) (by omega) (by omega) (by omega)]
        exact rf
      · rw [gg _ _ (by omega) (by omega) (by omega) (by omega), gg _ _ (by omega) (by omega) (by omega) (by omega)]
        exact rl j hj
      · rw [gI_k61, gI_k61]; exact gg _ _ (by omega) (by omega) (by omega) (by omega)
      · refine rm'.tr4 (by rw [v'.2.2.2.2.2.2.1.1]; exact v'.1.2) (fun j hj => ?_)
        rw [gI_k61, k60 j hj, gw _ _ (by omega), g1 _ _ (by omega)]
      · rw [gg _ _ (by omega) (by omega) (by omega) (by omega)]; exact u2
  · rcases id ri with ⟨_, i2⟩ | ⟨i1, _⟩
    · refine At_iconst (v := nI 0) (pc' := 43) iX10_image_42 rfl (by decide) ?_
      refine At_retZ iX10_image_43 rfl (Or.inl (by decide)) ⟨_, rfl, ?_⟩
      exact b_X11_image (d := 39) hL rfl _ ⟨fun _ => ⟨fun _ => ⟨rfl, I⟩, fun z => absurd i2 z⟩, fun z => absurd (by decide) z⟩
    · exact absurd (i1.symm.trans z) (by decide)
end OpImg2
theorem law_run (L : Nat) (xs : Nat → Int32) (hL : L ≤ 3072) : ∃ n h', run n 40 ML_law 0 (ent [.ref 0] 4) [] ((fun a j => if a = 0 then xs j else 0, fun _ _ => 0, fun _ _ => none, [(0, L)]) : Hp) = some (some (.int 1), h') ∧ nxt h' ≤ 600 ∧ tot h' ≤ L + 200000 := by
  have key := law_start (L := L) (xs := xs) (Q := fun v h' => v = some (.int 1) ∧ nxt h' ≤ 600 ∧ tot h' ≤ L + 200000) hL (fun h I => law_loop hL (fun h y hy I => by
    rcases Nat.lt_or_ge y 1 with k | k
    · rw [show y = 0 by omega]; exact op_image0 I
    · rw [show y = 1 by omega]; exact op_image1 I) (fun h2 I2 => ⟨rfl, by
    rcases I2.1.2.2.2.2.2.1 with ⟨_, a, b⟩ | ⟨_, a, b⟩
    · exact ⟨by omega, by omega⟩
    · exact ⟨by omega, b⟩⟩) L 0 h (by omega) (by omega) I)
  obtain ⟨n, v, h', e, ev, q1, q2⟩ := key
  subst ev
  exact ⟨n, h', e, q1, q2⟩
