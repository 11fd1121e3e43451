section Img
variable {d : Nat} {T : HT} {h : Hp} {Q : Option Value → Hp → Prop} {n sl : Nat} {c q : List Nat} {nm : Nat → Int32} {sg : Nat → List Mv} {w : Cd}
theorem s_copy8 (hL : Lay T) (eT : h.2.2 = T) {a x : Nat} (hA : IsX8 T a) (hX : IsX8 T x) (dj : a + 16 ≤ x ∨ x + 16 ≤ a) (rc : RC h x n sl c q nm sg w) (K : ∀ h' : Hp, h'.2.2 = h.2.2 → (∀ b j, ¬ (a ≤ b ∧ b < a + 16) → gI h' b j = gI h b j) → (∀ b j, ¬ (a ≤ b ∧ b < a + 16) → gJ h' b j = gJ h b j) → RC h' a n sl c q nm sg w → Q none h') : Call (d + 1) MX8_copy [.ref a, .ref x] h Q := by
  obtain ⟨r1, r2, r3, r4, r5, r6, r7, r8⟩ := rc
  refine b_X8_copy hL eT a x hA hX ?_
  refine upto 4 (fun i H => H.2.2 = T ∧ (∀ b j, ¬ (a ≤ b ∧ b < a + 16) → gI H b j = gI h b j) ∧ (∀ b j, ¬ (a ≤ b ∧ b < a + 16) → gJ H b j = gJ h b j) ∧ gI H a 0 = nI n ∧ gI H a 1 = nI sl ∧ gJ H a 2 = lN (enc c) ∧ gJ H a 3 = lN (enc q) ∧ (∀ i, i < 30 → gI H (a + 1) i = nm i) ∧ ∀ k, k < i → SG H (a + 8 + 2 * k) (sg k)) (fun i H => L_X8_copy_49 d a x (nI i) H Q) ?_ ?_ 0 _ (Nat.zero_le _) ⟨eT, fun b j hb => ?_, fun b j hb => ?_, ?_, ?_, ?_, ?_, fun i hi => ?_, fun k hk => by omega⟩
  rotate_left 2
  · simp [gI_cpI, gI_sJ, gI_sI, show ¬ b = a by omega, show ¬ b = a + 1 by omega]
  · simp [gJ_cpI, gJ_sJ, gJ_sI, show ¬ b = a by omega]
  · simp [gI_cpI, gI_sJ, gI_sI, r1]
  · simp [gI_cpI, gI_sJ, gI_sI, r2, show ¬ x = a by omega]
  · simp [gJ_cpI, gJ_sJ, gJ_sI, r3, show ¬ x = a by omega]
  · simp [gJ_cpI, gJ_sJ, gJ_sI, r4, show ¬ x = a by omega]
  · rw [gI_cpI, if_pos ⟨rfl, by omega, by omega⟩]
    simp [gI_sJ, gI_sI, show ¬ x + 1 = a by omega]
    exact r5 i hi
  · rintro i H hi ⟨eH, g, gj, p0, p1, p2, p3, p4, ps⟩ ih
    obtain ⟨s1, s2, s3⟩ := r6 i hi
    have gx : ∀ b j, x ≤ b → b < x + 16 → gI H b j = gI h b j := fun b j u v => g b j (by omega)
    have ez : gI (sI H (a + 8 + 2 * i) 0 (gI H (x + 8 + 2 * i) 0)) (x + 8 + 2 * i) 0 = nI (sg i).length := by
      rw [gI_sI_ne (by omega), gx _ _ (by omega) (by omega)]; exact s2
    refine b_X8_copy_49 hL eH a x _ hA hX ⟨fun _ => ⟨i, rfl, hi, i, rfl, hi, ?_, ?_⟩, fun z => absurd (nI_lt hi (by decide)) z⟩
    · unfold p_X7_copy
      rw [ez, nI_clamp (by omega), nI_clamp (by omega)]
      exact ⟨⟨nI_pos (by omega), nI_pos (by omega), nI_pos (by omega), by omega, by omega⟩, trivial⟩
    · rw [nI_add]
      have gw : ∀ b j, gI (w_X7_copy (a + 8 + 2 * i) (x + 8 + 2 * i) H) b j = if b = a + 8 + 2 * i + 1 ∧ j < (sg i).length then gI H (x + 8 + 2 * i + 1) j else if b = a + 8 + 2 * i ∧ j = 0 then gI H (x + 8 + 2 * i) 0 else gI H b j := by
        intro b j
        unfold w_X7_copy
        rw [ez, nI_clamp (by omega), gI_cpI]
        by_cases z : b = a + 8 + 2 * i + 1 ∧ j < (sg i).length
        · rw [if_pos (by omega), if_pos z, gI_sI_ne (by omega), show 0 + (j - 0) = j by omega]
        · rw [if_neg (by omega), if_neg z, gI_sI]
      have gwn : ∀ b j, ¬ (b = a + 8 + 2 * i ∨ b = a + 8 + 2 * i + 1) → gI (w_X7_copy (a + 8 + 2 * i) (x + 8 + 2 * i) H) b j = gI H b j := fun b j hb => by rw [gw, if_neg (by omega), if_neg (by omega)]
      refine ih _ ⟨eH, fun b j hb => by rw [gwn b j (by omega)]; exact g b j hb, fun b j hb => gj b j hb, by rw [gwn _ _ (by omega)]; exact p0, by rw [gwn _ _ (by omega)]; exact p1, p2, p3, fun i hi => by rw [gwn _ _ (by omega)]; exact p4 i hi, fun k hk => ?_⟩
      by_cases z : k = i
      · subst z
        refine ⟨s1, by rw [gw, if_neg (by omega), if_pos ⟨rfl, rfl⟩, gx _ _ (by omega) (by omega)]; exact s2, fun m hm => ?_⟩
        rw [gw, if_pos ⟨rfl, hm⟩, gx _ _ (by omega) (by omega)]
        exact s3 m hm
      · exact (ps k (by omega)).tr (fun b j u v => gwn b j (by omega))
  · rintro H ⟨eH, g, gj, p0, p1, p2, p3, p4, ps⟩
    refine b_X8_copy_49 hL eH a x _ hA hX ⟨fun z => absurd z (nI_nlt (Nat.le_refl _) (by decide)), fun _ => ?_⟩
    have dj3 : a + 3 + 3 ≤ x + 3 ∨ x + 3 + 3 ≤ a + 3 := by omega
    have ccx : CC H (x + 3) w := r7.tr (fun b j u v => g b j (by omega)) (gj _ _ (by omega))
    have cca := CC_copy dj3 ccx
    have gc := gI_copy dj3 H
    have gn : ∀ b j, ¬ (a + 3 ≤ b ∧ b < a + 6) → gI (w_X1_copy (a + 3) (x + 3) H) b j = gI H b j := fun b j hb => by rw [gc, if_neg (by omega), if_neg (by omega), if_neg (by omega), if_neg (by omega), if_neg (by omega)]
    have gjn : ∀ b j, b ≠ a + 3 → gJ (w_X1_copy (a + 3) (x + 3) H) b j = gJ H b j := fun b j hb => by
      unfold w_X1_copy
      simp [gJ_cpI, gJ_sI, gJ_sJ, hb]
    have g3 : gI (w_X1_copy (a + 3) (x + 3) H) (a + 3) 3 = gI H (x + 3) 3 := by rw [gc, if_neg (by omega), if_neg (by omega), if_pos ⟨rfl, rfl⟩]
    have eW : (w_X1_copy (a + 3) (x + 3) H).2.2 = T := eH
    generalize w_X1_copy (a + 3) (x + 3) H = W at *
    have gf : ∀ b j, b ≠ a + 6 → gI (cpI W (x + 6) 0 (a + 6) 0 300) b j = gI W b j := fun b j hb => by rw [gI_cpI, if_neg (fun z => hb z.1)]
    refine K _ (eW.trans eT.symm) (fun b j hb => by rw [gf _ _ (by omega), gn _ _ (by omega)]; exact g b j hb) (fun b j hb => by rw [gJ_cpI, gjn _ _ (by omega)]; exact gj b j hb) ⟨by rw [gf _ _ (by omega), gn _ _ (by omega)]; exact p0, by rw [gf _ _ (by omega), gn _ _ (by omega)]; exact p1, by rw [gJ_cpI, gjn _ _ (by omega)]; exact p2, by rw [gJ_cpI, gjn _ _ (by omega)]; exact p3, fun i hi => by rw [gf _ _ (by omega), gn _ _ (by omega)]; exact p4 i hi, fun k hk => (ps k hk).tr (fun b j u v => by rw [gf _ _ (by omega), gn _ _ (by omega)]), cca.tr (fun b j u v => gf b j (by omega)) rfl, ?_⟩
    obtain ⟨t1, t2, t3⟩ := r8
    refine ⟨t1, by rw [gf _ _ (by omega), g3, g _ _ (by omega)]; exact t2, fun i hi => ?_⟩
    rw [gI_cpI, if_pos ⟨rfl, by omega, by omega⟩, show 0 + (i - 0) = i by omega, gn _ _ (by omega), g _ _ (by omega)]
    exact t3 i hi
end Img
