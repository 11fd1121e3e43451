section AlikeM
variable {d : Nat} {T : HT} {h : Hp} {Q : Option Value → Hp → Prop} {n : Nat}
theorem b2n_t : nI (b2n true) = nI 1 := rfl
theorem b2n_f : nI (b2n false) = nI 0 := rfl
theorem b2n_0 {b : Bool} : (nI (b2n b) = 0) ↔ ¬ b = true := by cases b <;> decide
/-- the last part: both compared, and the overs laid back -/
theorem s_alike124 (hL : Lay T) (eT : h.2.2 = T) (hn : gI h 60 0 = nI n) (h16 : n ≤ 16) {sa sb : List Nat} (la : sa.length = n) (lb : sb.length = n) (ka : sm sa) (kb : sm sb) {oa ob : Nat → Int32} (h73 : ∀ j, j < n → gI h 73 j = nI (sa.getD j 0)) (h65 : MS h sb) (h72 : ∀ j, j < 256 → gI h 72 j = oa j) (h60 : ∀ j, j < 256 → gI h 60 (60 + j) = ob j)
    (K : ∀ (h' : Hp) r, h'.2 = h.2 → (∀ b j, (b = 60 → ¬ (60 ≤ j ∧ j < 316)) → gI h' b j = gI h b j) → (∀ j, j < 256 → gI h' 60 (60 + j) = gI h 71 j) → Alk sa sb oa ob r → Q (some (.int r)) h') : L_X11_alike_124 d (nI 1) (nI 1) (nI 0) h Q := by
  -- laying back
  have back : ∀ b1 b2 : Bool, (b1 = true ↔ sa = sb) → (b2 = true ↔ ∀ j, j < 256 → oa j = ob j) → L_X11_alike_220 d (nI (b2n b1)) (nI (b2n b2)) (nI 0) h Q := by
    intro b1 b2 e1 e2
    refine upto 256 (fun i h1 => h1.2 = h.2 ∧ (∀ b j, (b = 60 → ¬ (60 ≤ j ∧ j < 316)) → gI h1 b j = gI h b j) ∧ ∀ j, j < i → gI h1 60 (60 + j) = gI h 71 j) (fun i h1 => L_X11_alike_220 d (nI (b2n b1)) (nI (b2n b2)) (nI i) h1 Q) ?_ ?_ 0 h (by decide) ⟨rfl, fun _ _ _ => rfl, fun j hj => by omega⟩
    · rintro i h1 hi ⟨t, g, z⟩ ih
      refine b_X11_alike_220 hL (e2T t eT) _ _ _ ?_
      rw [nI_add, nI_clamp (by omega), nI_clamp (by omega), nI_add]
      refine ⟨fun _ => ⟨(inB_iff (by omega)).mpr (by omega), (inB_iff (by omega)).mpr (by omega), ih _ ⟨t, fun b j u => ?_, fun j hj => ?_⟩⟩, fun q => absurd (nI_lt hi (by decide)) q⟩
      · rw [gI_sI, if_neg (fun q => u q.1 (by omega))]; exact g b j u
      · rw [gI_sI_at]
        by_cases v : 60 + j = 60 + i
        · rw [if_pos v, g _ _ (by omega), show j = i by omega]
        · rw [if_neg v]; exact z j (by omega)
    · rintro h1 ⟨t, g, z⟩
      refine b_X11_alike_220 hL (e2T t eT) _ _ _ ⟨fun q => absurd q (by decide), fun _ => ?_⟩
      rw [b2n_0, b2n_0]
      refine ⟨fun q => K h1 _ t g z (Or.inl ⟨fun e => q (e1.mpr e), rfl⟩), fun q => ⟨fun q2 => K h1 _ t g z (Or.inr (Or.inr ⟨e1.mp (Classical.not_not.mp q), fun e => q2 (e2.mpr e), rfl⟩)), fun q2 => K h1 _ t g z (Or.inr (Or.inl ⟨e1.mp (Classical.not_not.mp q), e2.mp (Classical.not_not.mp q2), rfl⟩))⟩⟩
  -- the overs
  have ov : ∀ b1 : Bool, (b1 = true ↔ sa = sb) → L_X11_alike_171 d (nI (b2n b1)) (nI 1) (nI 0) h Q := by
    intro b1 e1
    have main := upto 256 (fun i h1 => h1 = h) (fun i h1 => ∀ b2 : Bool, (b2 = true ↔ ∀ j, j < i → oa j = ob j) → L_X11_alike_171 d (nI (b2n b1)) (nI (b2n b2)) (nI i) h1 Q) ?_ ?_ 0 h (by decide) rfl
    · exact main true ⟨fun _ j hj => by omega, fun _ => rfl⟩
    · rintro i h1 hi rfl ih b2 e2
      refine b_X11_alike_171 hL eT _ _ _ ?_
      rw [nI_add 60 i, nI_add i 1, nI_clamp (by omega), nI_clamp (by omega), h72 i hi, h60 i hi, b2n_0]
      refine ⟨fun _ => ⟨fun q => ?_, fun q => ⟨(inB_iff (by omega)).mpr (by omega), (inB_iff (by omega)).mpr (by omega), fun q2 => ?_, fun q2 => ?_⟩⟩, fun q => absurd (nI_lt hi (by decide)) q⟩
      · exact ih h1 rfl false ⟨fun k => absurd k (by decide), fun k => absurd (e2.mpr (fun j hj => k j (by omega))) q⟩
      · refine ih h1 rfl true ⟨fun _ j hj => ?_, fun _ => rfl⟩
        by_cases v : j = i
        · rw [v]; exact q2
        · exact e2.mp (Classical.not_not.mp q) j (by omega)
      · exact ih h1 rfl false ⟨fun k => absurd k (by decide), fun k => absurd (k i (by omega)) q2⟩
    · rintro h1 rfl b2 e2
      exact b_X11_alike_171 hL eT _ _ _ ⟨fun q => absurd q (by decide), fun _ => back b1 b2 e1 e2⟩
  -- the seats
  have main := upto n (fun i h1 => h1 = h) (fun i h1 => ∀ b1 : Bool, (b1 = true ↔ ∀ j, j < i → sa.getD j 0 = sb.getD j 0) → L_X11_alike_124 d (nI (b2n b1)) (nI 1) (nI i) h1 Q) ?_ ?_ 0 h (Nat.zero_le _) rfl
  · exact main true ⟨fun _ j hj => by omega, fun _ => rfl⟩
  · rintro i h1 hi rfl ih b1 e1
    have x1 := sm_getD ka i
    have x2 := sm_getD kb i
    refine b_X11_alike_124 hL eT _ _ _ ?_
    rw [hn, nI_clamp (by omega), nI_add, h73 i hi, h65 i (by omega), b2n_0]
    refine ⟨fun _ => ⟨fun q => ?_, fun q => ⟨(inB_iff (by omega)).mpr (by omega), (inB_iff (by omega)).mpr (by omega), fun q2 => ?_, fun q2 => ?_⟩⟩, fun q => absurd (nI_lt hi (by omega)) q⟩
    · exact ih h1 rfl false ⟨fun k => absurd k (by decide), fun k => absurd (e1.mpr (fun j hj => k j (by omega))) q⟩
    · refine ih h1 rfl true ⟨fun _ j hj => ?_, fun _ => rfl⟩
      by_cases v : j = i
      · rw [v]; exact nI_inj (by omega) (by omega) q2
      · exact e1.mp (Classical.not_not.mp q) j (by omega)
    · exact ih h1 rfl false ⟨fun k => absurd k (by decide), fun k => absurd (by rw [k i (by omega)]) q2⟩
  · rintro h1 rfl b1 e1
    refine b_X11_alike_124 hL eT _ _ _ ?_
    rw [hn]
    refine ⟨fun q => absurd q (nI_nlt (Nat.le_refl _) (by omega)), fun _ => ov b1 (e1.trans ⟨fun k => ext_getD (by omega) (fun i hi => k i (by omega)), fun k j _ => by rw [k]⟩)⟩
theorem s_alikeM (hL : Lay T) (eT : h.2.2 = T) {c : List Nat} {sg : Nat → List Mv} (hb : MB h n c sg) {a b : Nat} (ha : a < 4) (hb4 : b < 4)
    (K : ∀ (h' : Hp) r, Scr h h' → Alk (thS c (w00 0 n) (sg a)).2.2.2.1 (thS c (w00 0 n) (sg b)).2.2.2.1 (thS c (w00 0 n) (sg a)).2.2.2.2.1 (thS c (w00 0 n) (sg b)).2.2.2.2.1 r → Q (some (.int r)) h') : Call (d + 4) MX11_alike [.ref 59, .int (nI a), .int (nI b)] h Q := by
  obtain ⟨c1, ⟨c2, c3⟩, ⟨c4, c5, c6⟩, c7⟩ := id hb
  have p1 := pm_thS (c := c) (w := w00 0 n) (pm_range n) (show 0 < n by omega) (c7 a ha).2 (sg a).length (Nat.le_refl _)
  have p2 := pm_thS (c := c) (w := w00 0 n) (pm_range n) (show 0 < n by omega) (c7 b hb4).2 (sg b).length (Nat.le_refl _)
  rw [List.take_length] at p1 p2
  refine b_X11_alike hL eT _ _ ⟨fun _ => ⟨fun _ => ?_, fun z => absurd (isSongM_iff.mpr ⟨b, hb4, rfl⟩) z⟩, fun z => absurd (isSongM_iff.mpr ⟨a, ha, rfl⟩) z⟩
  refine upto 256 (fun i h1 => h1.2 = h.2 ∧ (∀ b j, b ≠ 71 → gI h1 b j = gI h b j) ∧ ∀ j, j < i → gI h1 71 j = gI h 60 (60 + j)) (fun i h1 => L_X11_alike_18 d (nI a) (nI b) (nI i) h1 Q) ?_ ?_ 0 h (by decide) ⟨rfl, fun _ _ _ => rfl, fun j hj => by omega⟩
  · rintro i h1 hi ⟨t, g, z⟩ ih
    refine b_X11_alike_18 hL (e2T t eT) _ _ _ ?_
    rw [nI_add, nI_clamp (by omega), nI_clamp (by omega), nI_add]
    refine ⟨fun _ => ⟨(inB_iff (by omega)).mpr (by omega), (inB_iff (by omega)).mpr (by omega), ih _ ⟨t, fun b j u => ?_, fun j hj => ?_⟩⟩, fun q => absurd (nI_lt hi (by decide)) q⟩
    · rw [gI_sI_ne u]; exact g b j u
    · rw [gI_sI_at]
      by_cases v : j = i
      · rw [if_pos v, g _ _ (by omega), v]
      · rw [if_neg v]; exact z j (by omega)
  · rintro h1 ⟨t1, g1, z1⟩
    refine b_X11_alike_18 hL (e2T t1 eT) _ _ _ ⟨fun q => absurd q (by decide), fun _ => ?_⟩
    refine s_singsAlone (d := d) hL (e2T t1 eT) (hb.tr (fun j _ => g1 _ _ (by decide))) ha (fun h2 t2 g2 s2 o2 => ⟨rfl, e2T (t2.trans t1) eT, ?_⟩)
    refine upto 256 (fun i h3 => h3.2 = h.2 ∧ (∀ b j, b ≠ 72 → gI h3 b j = gI h2 b j) ∧ ∀ j, j < i → gI h3 72 j = gI h2 60 (60 + j)) (fun i h3 => L_X11_alike_53 d (nI b) (nI i) h3 Q) ?_ ?_ 0 h2 (by decide) ⟨t2.trans t1, fun _ _ _ => rfl, fun j hj => by omega⟩
    · rintro i h3 hi ⟨t, g, z⟩ ih
      refine b_X11_alike_53 hL (e2T t eT) _ _ ?_
      rw [nI_add, nI_clamp (by omega), nI_clamp (by omega), nI_add]
      refine ⟨fun _ => ⟨(inB_iff (by omega)).mpr (by omega), (inB_iff (by omega)).mpr (by omega), ih _ ⟨t, fun b j u => ?_, fun j hj => ?_⟩⟩, fun q => absurd (nI_lt hi (by decide)) q⟩
      · rw [gI_sI_ne u]; exact g b j u
      · rw [gI_sI_at]
        by_cases v : j = i
        · rw [if_pos v, g _ _ (by omega), v]
        · rw [if_neg v]; exact z j (by omega)
    · rintro h3 ⟨t3, g3, z3⟩
      refine b_X11_alike_53 hL (e2T t3 eT) _ _ ⟨fun q => absurd q (by decide), fun _ => ?_⟩
      have n3 : gI h3 60 0 = nI n := by rw [g3 _ _ (by decide), g2 60 0 ⟨by decide, by decide, fun _ => by omega⟩, g1 _ _ (by decide)]; exact c1
      refine upto n (fun i h4 => h4.2 = h.2 ∧ (∀ b j, b ≠ 73 → gI h4 b j = gI h3 b j) ∧ ∀ j, j < i → gI h4 73 j = gI h3 65 j) (fun i h4 => L_X11_alike_83 d (nI b) (nI i) h4 Q) ?_ ?_ 0 h3 (Nat.zero_le _) ⟨t3, fun _ _ _ => rfl, fun j hj => by omega⟩
      · rintro i h4 hi ⟨t, g, z⟩ ih
        refine b_X11_alike_83 hL (e2T t eT) _ _ ?_
        rw [g 60 0 (by decide), n3, nI_clamp (by omega), nI_add]
        refine ⟨fun _ => ⟨(inB_iff (by omega)).mpr (by omega), (inB_iff (by omega)).mpr (by omega), ih _ ⟨t, fun b j u => ?_, fun j hj => ?_⟩⟩, fun q => absurd (nI_lt hi (by omega)) q⟩
        · rw [gI_sI_ne u]; exact g b j u
        · rw [gI_sI_at]
          by_cases v : j = i
          · rw [if_pos v, g _ _ (by omega), v]
          · rw [if_neg v]; exact z j (by omega)
      · rintro h4 ⟨t4, g4, z4⟩
        have f4 : ∀ b j, ovF b j → b ≠ 71 → b ≠ 72 → b ≠ 73 → gI h4 b j = gI h b j := fun b j u v w x => by rw [g4 b j x, g3 b j w, g2 b j u, g1 b j v]
        refine b_X11_alike_83 hL (e2T t4 eT) _ _ ?_
        rw [g4 60 0 (by decide), n3]
        refine ⟨fun q => absurd q (nI_nlt (Nat.le_refl _) (by omega)), fun _ => ?_⟩
        refine s_singsAlone (d := d) hL (e2T t4 eT) (hb.tr (fun j q => f4 60 j ⟨by decide, by decide, fun _ => by omega⟩ (by decide) (by decide) (by decide))) hb4 (fun h5 t5 g5 s5 o5 => ⟨rfl, e2T (t5.trans t4) eT, ?_⟩)
        refine s_alike124 (d := d) (oa := (thS c (w00 0 n) (sg a)).2.2.2.2.1) (ob := (thS c (w00 0 n) (sg b)).2.2.2.2.1) hL (e2T (t5.trans t4) eT) ?_ c3 p1.1 p2.1 (pm_sm p1 c3) (pm_sm p2 c3) (fun j hj => ?_) s5 (fun j hj => ?_) o5 (fun h6 r t6 g6 z6 al => K h6 r ⟨by rw [t6, t5, t4], fun b j u v w x => ?_, fun b j u => by rw [gJ_e2 t6, gJ_e2 t5, gJ_e2 t4]⟩ al)
        · rw [g5 60 0 ⟨by decide, by decide, fun _ => by omega⟩, g4 _ _ (by decide)]; exact n3
        · rw [g5 73 j ⟨by decide, by decide, fun _ => by omega⟩, z4 j hj, g3 _ _ (by decide)]
          exact s2 j (by rw [p1.1]; exact hj)
        · rw [g5 72 j ⟨by decide, by decide, fun _ => by omega⟩, g4 _ _ (by decide), z3 j hj]; exact o2 j hj
        · by_cases q : b = 60 ∧ 60 ≤ j ∧ j < 316
          · obtain ⟨q1, q2, q3⟩ := q
            rw [q1]
            have := z6 (j - 60) (by omega)
            rw [show 60 + (j - 60) = j by omega] at this
            rw [this, g5 71 _ ⟨by decide, by decide, fun _ => by omega⟩, g4 _ _ (by decide), g3 _ _ (by decide), g2 71 _ ⟨by decide, by decide, fun _ => by omega⟩, z1 (j - 60) (by omega), show 60 + (j - 60) = j by omega]
          · have uf : ovF b j := ⟨by omega, by omega, fun k l => q ⟨k, l⟩⟩
            rw [g6 b j uf.2.2, g5 b j uf, f4 b j uf (by omega) (by omega) (by omega)]
theorem op_alike {L : Nat} {xs : Nat → Int32} (I : Inv L xs h) (x1 x2 : Int32) : Op MX10_alike MX11_alike [.int x1, .int x2] h (Inv L xs) := by
  obtain ⟨R, n, sl, c, q, nm, sg, w, v, rc, rm, hs⟩ := id I
  have hL := R.1
  have hb := RM.mb v rm
  obtain ⟨⟨v1, v2⟩, v3, v4, v5, v6, v7, v8⟩ := id v
  by_cases z1 : ∃ v, v < 4 ∧ x1 = nI v
  · by_cases z2 : ∃ v, v < 4 ∧ x2 = nI v
    · obtain ⟨a, ha, e1⟩ := z1
      obtain ⟨b, hb4, e2⟩ := z2
      subst e1
      subst e2
      refine s_alikeC (d := 34) hL rfl rc.1 (by omega) v2 (VL_sm v4) (by have := v4.1; omega) rc.2.2.1 (fun k hk => rc.2.2.2.2.2.1 k hk) v7 ha hb4 (fun h1 r s1 al => ⟨_, rfl, ?_⟩)
      have I1 := I.scr s1
      exact s_alikeM (d := 35) (by rw [s1.1]; exact hL) rfl (hb.tr (fun j _ => s1.2.1 _ _ (by omega) (by omega) (by omega) (by omega))) ha hb4 (fun h2 r' s2 al' => ⟨by rw [Alk_uniq al al'], I1.scr s2⟩)
    · refine b_X10_alike (d := 34) hL rfl _ _ ⟨fun _ => ⟨fun k => absurd (isSongC_iff.mp k) z2, fun _ => ⟨_, rfl, ?_⟩⟩, fun _ => ⟨_, rfl, ?_⟩⟩
      all_goals
        refine b_X11_alike (d := 35) hL rfl _ _ ⟨fun _ => ⟨fun k => absurd (isSongM_iff.mp k) z2, fun _ => ⟨rfl, I⟩⟩, fun _ => ⟨rfl, I⟩⟩
  · refine b_X10_alike (d := 34) hL rfl _ _ ⟨fun k => absurd (isSongC_iff.mp k) z1, fun _ => ⟨_, rfl, ?_⟩⟩
    exact b_X11_alike (d := 35) hL rfl _ _ ⟨fun k => absurd (isSongM_iff.mp k) z1, fun _ => ⟨rfl, I⟩⟩
end AlikeM
