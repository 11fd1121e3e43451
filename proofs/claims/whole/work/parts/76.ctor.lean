section Ctor
variable {d a : Nat} {h : Hp} {Q : Option Value → Hp → Prop}
theorem genA {y : Mth} {pc : Nat} {L S : List Value} {P : Hp → Prop} (hp : P h) (k : ∀ h, P h → At d y pc L S h Q) : At d y pc L S h Q := k h hp
theorem fill0 {x0 n0 : Nat} {x1 : Int32} (hk : shp h x0 = (1, n0)) (hn : n0 < 2 ^ 31) (K : ∀ h' : Hp, h'.2 = h.2 → (∀ b j, gI h' b j = if b = x0 ∧ j < n0 then x1 else gI h b j) → Q none h') : Call d MJ7_fill_53178 [.ref x0, .int x1] h Q := by
  show At d MJ7_fill_53178 0 [.ref x0, .int x1, un, un] [] h Q
  refine At_iconst (v := nI 0) (pc' := 1) iJ7_fill_53178_0 rfl (by decide) ?_
  refine At_istore_n (L' := [.ref x0, .int x1, .int (nI 0), un]) (pc' := 2) iJ7_fill_53178_1 rfl (Nat.le_of_ble_eq_true rfl) rfl ?_
  refine At_aload_n (pc' := 3) iJ7_fill_53178_2 rfl rfl ?_
  refine At_alen (pc' := 4) iJ7_fill_53178_3 rfl hk (by decide) ?_
  refine At_istore_n (L' := [.ref x0, .int x1, .int (nI 0), .int (nI n0)]) (pc' := 5) iJ7_fill_53178_4 rfl (Nat.le_of_ble_eq_true rfl) rfl ?_
  refine upto n0 (fun i h1 => h1.2 = h.2 ∧ ∀ b j, gI h1 b j = if b = x0 ∧ j < i then x1 else gI h b j) (fun i h1 => At d MJ7_fill_53178 5 [.ref x0, .int x1, .int (nI i), .int (nI n0)] [] h1 Q) ?_ ?_ 0 h (Nat.zero_le _) ⟨rfl, fun b j => by rw [if_neg (by omega)]⟩
  · rintro i h1 hi ⟨e2, hg⟩ ih
    refine At_iload_n (pc' := 6) iJ7_fill_53178_5 rfl rfl ?_
    refine At_iload_n (pc' := 7) iJ7_fill_53178_6 rfl rfl ?_
    refine At_icmp_ge (t := 20) (pc' := 10) iJ7_fill_53178_7 (by decide) rfl (fun z => absurd (nI_lt hi hn) z) (fun _ => ?_)
    refine At_aload_n (pc' := 11) iJ7_fill_53178_10 rfl rfl ?_
    refine At_iload_n (pc' := 12) iJ7_fill_53178_11 rfl rfl ?_
    refine At_iload_n (pc' := 13) iJ7_fill_53178_12 rfl rfl ?_
    refine At_iast (n := n0) (pc' := 14) iJ7_fill_53178_13 rfl (by unfold shp; rw [e2]; exact hk) ((inB_iff (by omega)).mpr hi) ?_
    refine At_iinc (v := nI 1) (L' := [.ref x0, .int x1, .int (nI (i + 1)), .int (nI n0)]) (pc' := 17) iJ7_fill_53178_14 rfl rfl (Nat.le_of_ble_eq_true rfl) (by decide) (by rw [nI_add]; rfl) ?_
    refine At_goto (t := 5) iJ7_fill_53178_17 (by decide) (ih _ ⟨e2, fun b j => ?_⟩)
    rw [nI_clamp (by omega), gI_sI, hg]
    by_cases z : b = x0 ∧ j = i
    · rw [if_pos z, if_pos (by omega)]
    · rw [if_neg z]
      by_cases y : b = x0 ∧ j < i
      · rw [if_pos y, if_pos (by omega)]
      · rw [if_neg y, if_neg (by omega)]
  · rintro h1 ⟨e2, hg⟩
    refine At_iload_n (pc' := 6) iJ7_fill_53178_5 rfl rfl ?_
    refine At_iload_n (pc' := 7) iJ7_fill_53178_6 rfl rfl ?_
    refine At_icmp_ge (t := 20) (pc' := 10) iJ7_fill_53178_7 (by decide) rfl (fun _ => ?_) (fun z => absurd z (nI_nlt (Nat.le_refl _) hn))
    exact At_retV iJ7_fill_53178_20 rfl (K h1 e2 hg)
theorem home8 : r_X6_home (nI 8) = lN (enc (List.range 8)) := by decide +kernel
def sgs : Nat → List (Nat × Nat)
  | 0 => []
  | i + 1 => sgs i ++ [(15, 2), (1, 200)]
theorem sgs_len : ∀ i, (sgs i).length = 2 * i
  | 0 => rfl
  | i + 1 => by unfold sgs; rw [List.length_append, sgs_len i]; show 2 * i + 2 = _; omega
def S7 : List (Nat × Nat) := [(1, 30), (3, 4), (11, 6), (1, 16), (1, 256), (1, 300), (1, 30)]
theorem IsX7.tr {T T' : HT} (x : IsX7 T a) (g : ∀ b, a ≤ b → b < a + 2 → kd T' b = kd T b) (r : ∀ k, rf T' a k = rf T a k) : IsX7 T' a := ⟨by rw [g _ (by omega) (by omega)]; exact x.1, by rw [g _ (by omega) (by omega)]; exact x.2.1, by rw [r]; exact x.2.2⟩
theorem IsX1.tr {T T' : HT} (x : IsX1 T a) (g : ∀ b, a ≤ b → b < a + 3 → kd T' b = kd T b) (r : ∀ k, rf T' a k = rf T a k) : IsX1 T' a := ⟨by rw [g _ (by omega) (by omega)]; exact x.1, by rw [g _ (by omega) (by omega)]; exact x.2.1, by rw [g _ (by omega) (by omega)]; exact x.2.2.1, by rw [r]; exact x.2.2.2.1, by rw [r]; exact x.2.2.2.2⟩
def F8 (h : Hp) (a : Nat) : Prop := gI h a 0 = nI 8 ∧ gI h a 1 = nI 0 ∧ gJ h a 2 = 0 ∧ gJ h a 3 = 0 ∧ gR h a 4 = some (a + 1) ∧ gR h a 5 = some (a + 2)
def G8 (h : Hp) (a : Nat) : Prop := F8 h a ∧ gR h a 6 = some (a + 3) ∧ gR h a 7 = some (a + 6) ∧ gR h a 8 = some (a + 7) ∧ IsX1 h.2.2 (a + 3) ∧ gJ h (a + 3) 0 = r_X6_home (nI 8) ∧ gI h (a + 3) 1 = 0 ∧ gI h (a + 3) 2 = 0 ∧ gI h (a + 3) 3 = 0 ∧ (∀ j, gI h (a + 4) j = 0) ∧ (∀ j, gI h (a + 5) j = 0)
theorem k_X8a (hk : shp h a = (16, 9)) (hz : nxt h = a + 1) (h9 : a < 700000) (K : ∀ h' : Hp, Nw h h' a S7 → G8 h' a → (∀ j, j < 30 → gI h' (a + 1) j = -1) → At (d + 3) MX8_init 79 [.ref a, .int (nI 0)] [] h' Q) : Call (d + 3) MX8_init [.ref a] h Q := by
  show At (d + 3) MX8_init 0 [.ref a, un] [] h Q
  refine At_aload_n (pc' := 1) iX8_init_0 rfl rfl ?_
  refine At_oinit (pc' := 4) iX8_init_1 rfl m_8_3 (Nat.le_of_ble_eq_true rfl) ?_
  refine At_aload_n (pc' := 5) iX8_init_4 rfl rfl ?_
  refine At_bipush (v := nI 8) (pc' := 7) iX8_init_5 rfl (by decide) ?_
  refine At_putI (pc' := 10) iX8_init_7 rfl f_8_9 (by simp [Nat.add_assoc, sh_new, shp_sI, shp_sJ, shp_sR, nx_new, nxt_sI, nxt_sJ, nxt_sR, hz, hk]) (Or.inr ⟨rfl, rfl⟩) (by decide) ?_
  refine At_aload_n (pc' := 11) iX8_init_10 rfl rfl ?_
  refine At_iconst (v := nI 0) (pc' := 12) iX8_init_11 rfl (by decide) ?_
  refine At_putI (pc' := 15) iX8_init_12 rfl f_8_15 (by simp [Nat.add_assoc, sh_new, shp_sI, shp_sJ, shp_sR, nx_new, nxt_sI, nxt_sJ, nxt_sR, hz, hk]) (Or.inr ⟨rfl, rfl⟩) (by decide) ?_
  refine At_aload_n (pc' := 16) iX8_init_15 rfl rfl ?_
  refine At_lconst (v := 0) (pc' := 17) iX8_init_16 rfl (by decide) ?_
  refine At_putJ (pc' := 20) iX8_init_17 rfl f_8_18 (by simp [Nat.add_assoc, sh_new, shp_sI, shp_sJ, shp_sR, nx_new, nxt_sI, nxt_sJ, nxt_sR, hz, hk]) (Or.inr ⟨rfl, rfl⟩) (by decide) ?_
  refine At_aload_n (pc' := 21) iX8_init_20 rfl rfl ?_
  refine At_lconst (v := 0) (pc' := 22) iX8_init_21 rfl (by decide) ?_
  refine At_putJ (pc' := 25) iX8_init_22 rfl f_8_22 (by simp [Nat.add_assoc, sh_new, shp_sI, shp_sJ, shp_sR, nx_new, nxt_sI, nxt_sJ, nxt_sR, hz, hk]) (Or.inr ⟨rfl, rfl⟩) (by decide) ?_
  refine At_aload_n (pc' := 26) iX8_init_25 rfl rfl ?_
  refine At_bipush (v := nI 30) (pc' := 28) iX8_init_26 rfl (by decide) ?_
  refine At_newI (N := 30) (z := a + 1) (pc' := 30) iX8_init_28 rfl (by decide) (by decide) (by decide) (by (try simp only [nx_new, nxt_sI, nxt_sJ, nxt_sR]); omega) (by omega) ?_
  refine At_putR (pc' := 33) iX8_init_30 rfl f_8_25 (by simp [Nat.add_assoc, sh_new, shp_sI, shp_sJ, shp_sR, nx_new, nxt_sI, nxt_sJ, nxt_sR, hz, hk]) (Or.inr ⟨rfl, rfl⟩) (by decide) (by (try simp only [nx_new, nxt_sI, nxt_sJ, nxt_sR]); omega) ?_
  refine At_aload_n (pc' := 34) iX8_init_33 rfl rfl ?_
  refine At_iconst (v := nI 4) (pc' := 35) iX8_init_34 rfl (by decide) ?_
  refine At_newQ (kd := 3) (N := 4) (z := a + 2) (pc' := 38) iX8_init_35 rfl rfl (by decide) (by decide) (by decide) (by (try simp only [nx_new, nxt_sI, nxt_sJ, nxt_sR]); omega) (by omega) ?_
  refine At_putR (pc' := 41) iX8_init_38 rfl f_8_31 (by simp [Nat.add_assoc, sh_new, shp_sI, shp_sJ, shp_sR, nx_new, nxt_sI, nxt_sJ, nxt_sR, hz, hk]) (Or.inr ⟨rfl, rfl⟩) (by decide) (by (try simp only [nx_new, nxt_sI, nxt_sJ, nxt_sR]); omega) ?_
  refine At_aload_n (pc' := 42) iX8_init_41 rfl rfl ?_
  refine At_newO (c := 1) (N := 6) (z := a + 3) (pc' := 45) iX8_init_42 rfl rfl rfl (by (try simp only [nx_new, nxt_sI, nxt_sJ, nxt_sR]); omega) (by omega) ?_
  refine genA (P := fun H => Nw h H a [(1, 30), (3, 4), (11, 6)] ∧ F8 H a ∧ shp H (a + 3) = (11, 6)) ⟨⟨?_, fun b j hb => ?_, fun b j hb => ?_, fun b j hb => ?_⟩, ⟨?_, ?_, ?_, ?_, ?_, ?_⟩, ?_⟩ ?_
  · show (((h.2.2.2 ++ [(1, 30)]) ++ [(3, 4)]) ++ [(11, 6)]) = _
    simp
  · simp [Nat.add_assoc, gI_new, gI_sI, gI_sJ, gI_sR, nx_new, nxt_sI, nxt_sJ, nxt_sR, hz, show ¬ b = a + 1 by omega, show ¬ b = a by omega, show ¬ b = a + 2 by omega, show ¬ b = a + 3 by omega]
  · simp [Nat.add_assoc, gJ_new, gJ_sI, gJ_sR, gJ_sJ, nx_new, nxt_sI, nxt_sJ, nxt_sR, hz, show ¬ b = a + 1 by omega, show ¬ b = a by omega, show ¬ b = a + 2 by omega, show ¬ b = a + 3 by omega]
  · simp [Nat.add_assoc, gR_new, gR_sI, gR_sJ, gR_sR, nx_new, nxt_sI, nxt_sJ, nxt_sR, hz, show ¬ b = a + 1 by omega, show ¬ b = a by omega, show ¬ b = a + 2 by omega, show ¬ b = a + 3 by omega]
  · simp [Nat.add_assoc, gI_new, gI_sI, gI_sJ, gI_sR, nx_new, nxt_sI, nxt_sJ, nxt_sR, hz]
  · simp [Nat.add_assoc, gI_new, gI_sI, gI_sJ, gI_sR, nx_new, nxt_sI, nxt_sJ, nxt_sR, hz]
  · simp [Nat.add_assoc, gJ_new, gJ_sI, gJ_sR, gJ_sJ, nx_new, nxt_sI, nxt_sJ, nxt_sR, hz]
  · simp [Nat.add_assoc, gJ_new, gJ_sI, gJ_sR, gJ_sJ, nx_new, nxt_sI, nxt_sJ, nxt_sR, hz]
  · simp [Nat.add_assoc, gR_new, gR_sI, gR_sJ, gR_sR, nx_new, nxt_sI, nxt_sJ, nxt_sR, hz]
  · simp [Nat.add_assoc, gR_new, gR_sI, gR_sJ, gR_sR, nx_new, nxt_sI, nxt_sJ, nxt_sR, hz]
  · simp [Nat.add_assoc, sh_new, shp_sI, shp_sJ, shp_sR, nx_new, nxt_sI, nxt_sJ, nxt_sR, hz]
  rintro H ⟨nw, ⟨f0, f1, f2, f3, f4, f5⟩, k3⟩
  have hzH : nxt H = a + 4 := by rw [nw.nx, hz]; rfl
  have hkH : shp H a = (16, 9) := by rw [nw.sh (by omega)]; exact hk
  refine At_dup (pc' := 46) iX8_init_45 rfl rfl ?_
  refine At_spec (pc' := 49) iX8_init_46 rfl m_8_37 (Or.inr rfl) rfl rfl (Nat.le_of_ble_eq_true rfl) (Nat.le_of_ble_eq_true rfl) ?_
  refine k_X1 (d := d) k3 hzH (by omega) (fun h1 nw1 x1 c0 c1 c2 c3 c4 c5 => ?_)
  show At (d + 3) MX8_init 49 [.ref a, un] [.ref (a + 3), .ref a] h1 Q
  have nwB := nw.trans nw1 (by omega)
  have hz1 : nxt h1 = a + 6 := by rw [nw1.nx, hzH]; rfl
  have hk1 : shp h1 a = (16, 9) := by rw [nw1.sh (by omega)]; exact hkH
  have e0 : ∀ k, gI h1 a k = gI H a k := fun k => nw1.2.1 a k (by omega)
  have eJ : ∀ k, gJ h1 a k = gJ H a k := fun k => nw1.2.2.1 a k (by omega)
  have eR : ∀ k, gR h1 a k = gR H a k := fun k => nw1.2.2.2 a k (by omega)
  refine At_putR (pc' := 52) iX8_init_49 rfl f_8_38 (by simp [Nat.add_assoc, sh_new, shp_sI, shp_sJ, shp_sR, nx_new, nxt_sI, nxt_sJ, nxt_sR, hz1, hk1]) (Or.inr ⟨rfl, rfl⟩) (by decide) (by (try simp only [nx_new, nxt_sI, nxt_sJ, nxt_sR]); omega) ?_
  refine At_aload_n (pc' := 53) iX8_init_52 rfl rfl ?_
  refine At_sipush (v := nI 300) (pc' := 56) iX8_init_53 rfl (by decide) ?_
  refine At_newI (N := 300) (z := a + 6) (pc' := 58) iX8_init_56 rfl (by decide) (by decide) (by decide) (by (try simp only [nx_new, nxt_sI, nxt_sJ, nxt_sR]); omega) (by omega) ?_
  refine At_putR (pc' := 61) iX8_init_58 rfl f_8_42 (by simp [Nat.add_assoc, sh_new, shp_sI, shp_sJ, shp_sR, nx_new, nxt_sI, nxt_sJ, nxt_sR, hz1, hk1]) (Or.inr ⟨rfl, rfl⟩) (by decide) (by (try simp only [nx_new, nxt_sI, nxt_sJ, nxt_sR]); omega) ?_
  refine At_aload_n (pc' := 62) iX8_init_61 rfl rfl ?_
  refine At_bipush (v := nI 30) (pc' := 64) iX8_init_62 rfl (by decide) ?_
  refine At_newI (N := 30) (z := a + 7) (pc' := 66) iX8_init_64 rfl (by decide) (by decide) (by decide) (by (try simp only [nx_new, nxt_sI, nxt_sJ, nxt_sR]); omega) (by omega) ?_
  refine At_putR (pc' := 69) iX8_init_66 rfl f_8_45 (by simp [Nat.add_assoc, sh_new, shp_sI, shp_sJ, shp_sR, nx_new, nxt_sI, nxt_sJ, nxt_sR, hz1, hk1]) (Or.inr ⟨rfl, rfl⟩) (by decide) (by (try simp only [nx_new, nxt_sI, nxt_sJ, nxt_sR]); omega) ?_
  refine genA (P := fun H2 => Nw h H2 a S7 ∧ G8 H2 a) ⟨⟨?_, fun b j hb => ?_, fun b j hb => ?_, fun b j hb => ?_⟩, ⟨⟨?_, ?_, ?_, ?_, ?_, ?_⟩, ?_, ?_, ?_, ?_, ?_, ?_, ?_, ?_, fun j => ?_, fun j => ?_⟩⟩ ?_
  · show ((h1.2.2.2 ++ [(1, 300)]) ++ [(1, 30)]) = _
    rw [nwB.1]; simp [S7]
  · simp [Nat.add_assoc, gI_new, gI_sR, nx_new, nxt_sR, hz1, show ¬ b = a + 6 by omega, show ¬ b = a + 7 by omega, show ¬ b = a by omega]
    exact nwB.2.1 b j hb
  · simp [Nat.add_assoc, gJ_new, gJ_sR, nx_new, nxt_sR, hz1, show ¬ b = a + 6 by omega, show ¬ b = a + 7 by omega, show ¬ b = a by omega]
    exact nwB.2.2.1 b j hb
  · simp [Nat.add_assoc, gR_new, gR_sR, nx_new, nxt_sR, hz1, show ¬ b = a + 6 by omega, show ¬ b = a + 7 by omega, show ¬ b = a by omega]
    exact nwB.2.2.2 b j hb
  · simp [Nat.add_assoc, gI_new, gI_sR, nx_new, nxt_sR, hz1, e0, f0]
  · simp [Nat.add_assoc, gI_new, gI_sR, nx_new, nxt_sR, hz1, e0, f1]
  · simp [Nat.add_assoc, gJ_new, gJ_sR, nx_new, nxt_sR, hz1, eJ, f2]
  · simp [Nat.add_assoc, gJ_new, gJ_sR, nx_new, nxt_sR, hz1, eJ, f3]
  · simp [Nat.add_assoc, gR_new, gR_sR, nx_new, nxt_sR, hz1, eR, f4]
  · simp [Nat.add_assoc, gR_new, gR_sR, nx_new, nxt_sR, hz1, eR, f5]
  · simp [Nat.add_assoc, gR_new, gR_sR, nx_new, nxt_sR, hz1]
  · simp [Nat.add_assoc, gR_new, gR_sR, nx_new, nxt_sR, hz1]
  · simp [Nat.add_assoc, gR_new, gR_sR, nx_new, nxt_sR, hz1]
  · refine x1.tr (fun b u v => ?_) (fun k => ?_)
    · show shp _ b = shp _ b
      simp [Nat.add_assoc, sh_new, shp_sR, nx_new, nxt_sR, hz1, show ¬ b = a + 6 by omega, show ¬ b = a + 7 by omega]
    · show gR _ _ _ = gR _ _ _
      simp [Nat.add_assoc, gR_new, gR_sR, nx_new, nxt_sR, hz1]
  · simp [Nat.add_assoc, gJ_new, gJ_sR, nx_new, nxt_sR, hz1, c0]
  · simp [Nat.add_assoc, gI_new, gI_sR, nx_new, nxt_sR, hz1, c1]
  · simp [Nat.add_assoc, gI_new, gI_sR, nx_new, nxt_sR, hz1, c2]
  · simp [Nat.add_assoc, gI_new, gI_sR, nx_new, nxt_sR, hz1, c3]
  · simp [Nat.add_assoc, gI_new, gI_sR, nx_new, nxt_sR, hz1]; exact c4 j
  · simp [Nat.add_assoc, gI_new, gI_sR, nx_new, nxt_sR, hz1]; exact c5 j
  rintro H2 ⟨nw2, g8⟩
  have hz2 : nxt H2 = a + 8 := by rw [nw2.nx, hz]; rfl
  have hk2 : shp H2 a = (16, 9) := by rw [nw2.sh (by omega)]; exact hk
  have hs1 : shp H2 (a + 1) = (1, 30) := by
    unfold shp
    rw [nw2.1, List.getD_eq_getElem?_getD, List.getElem?_append_right (by show h.2.2.2.length ≤ a + 1; exact Nat.le_of_eq hz), show a + 1 - h.2.2.2.length = 0 by show a + 1 - nxt h = 0; omega]
    rfl
  refine At_aload_n (pc' := 70) iX8_init_69 rfl rfl ?_
  refine At_getR (pc' := 73) iX8_init_70 rfl f_8_25 (by rw [hk2]) (by decide) g8.1.2.2.2.2.1 ?_
  refine At_iconst (v := (-1)) (pc' := 74) iX8_init_73 rfl (by decide) ?_
  refine At_stat (pc' := 77) iX8_init_74 rfl m_8_48 rfl rfl (Nat.le_of_ble_eq_true rfl) (Nat.le_of_ble_eq_true rfl) (Nat.le_of_ble_eq_true rfl) ?_
  refine fill0 (d := d + 2) hs1 (by decide) (fun h3 e3 g3 => ?_)
  show At (d + 3) MX8_init 77 [.ref a, un] [] h3 Q
  refine At_iconst (v := nI 0) (pc' := 78) iX8_init_77 rfl (by decide) ?_
  refine At_istore_n (L' := [.ref a, .int (nI 0)]) (pc' := 79) iX8_init_78 rfl (Nat.le_of_ble_eq_true rfl) rfl ?_
  have gI3 : ∀ b j, b ≠ a + 1 → gI h3 b j = gI H2 b j := fun b j hb => by rw [g3, if_neg (fun z => hb z.1)]
  have gJ3 : ∀ b j, gJ h3 b j = gJ H2 b j := fun b j => gJ_e2 e3 b j
  have gR3 : ∀ b j, gR h3 b j = gR H2 b j := fun b j => gR_e2 e3 b j
  obtain ⟨⟨a0, a1, a2, a3, a4, a5⟩, a6, a7, a8, a9, b0, b1, b2, b3, b4, b5⟩ := g8
  refine K h3 ⟨by rw [e3]; exact nw2.1, fun b j hb => by rw [gI3 b j (by omega)]; exact nw2.2.1 b j hb, fun b j hb => by rw [gJ3]; exact nw2.2.2.1 b j hb, fun b j hb => by rw [gR3]; exact nw2.2.2.2 b j hb⟩ ⟨⟨by rw [gI3 _ _ (by omega)]; exact a0, by rw [gI3 _ _ (by omega)]; exact a1, by rw [gJ3]; exact a2, by rw [gJ3]; exact a3, by rw [gR3]; exact a4, by rw [gR3]; exact a5⟩, by rw [gR3]; exact a6, by rw [gR3]; exact a7, by rw [gR3]; exact a8, by rw [e3]; exact a9, by rw [gJ3]; exact b0, by rw [gI3 _ _ (by omega)]; exact b1, by rw [gI3 _ _ (by omega)]; exact b2, by rw [gI3 _ _ (by omega)]; exact b3, fun j => by rw [gI3 _ _ (by omega)]; exact b4 j, fun j => by rw [gI3 _ _ (by omega)]; exact b5 j⟩ (fun j hj => by rw [g3, if_pos ⟨rfl, hj⟩])
theorem Nw.at {h' : Hp} {s : List (Nat × Nat)} (x : Nw h h' a s) {z i : Nat} (hz : nxt h = z) : shp h' (z + i) = s.getD i (99, 0) := by
  subst hz
  unfold shp
  rw [x.1, List.getD_eq_getElem?_getD, List.getD_eq_getElem?_getD, List.getElem?_append_right (by show h.2.2.2.length ≤ nxt h + i; exact Nat.le_add_right _ _), show nxt h + i - h.2.2.2.length = i by show nxt h + i - nxt h = i; omega]
theorem G8.tr {h' : Hp} (x : G8 h a) (g : ∀ b j, a ≤ b → b < a + 6 → gI h' b j = gI h b j) (gj : ∀ b j, a ≤ b → b < a + 6 → gJ h' b j = gJ h b j) (gr : ∀ b j, (b = a ∨ b = a + 3) → gR h' b j = gR h b j) (k : ∀ b, a ≤ b → b < a + 6 → shp h' b = shp h b) : G8 h' a := by
  obtain ⟨⟨a0, a1, a2, a3, a4, a5⟩, a6, a7, a8, a9, b0, b1, b2, b3, b4, b5⟩ := x
  exact ⟨⟨by rw [g _ _ (by omega) (by omega)]; exact a0, by rw [g _ _ (by omega) (by omega)]; exact a1, by rw [gj _ _ (by omega) (by omega)]; exact a2, by rw [gj _ _ (by omega) (by omega)]; exact a3, by rw [gr _ _ (by omega)]; exact a4, by rw [gr _ _ (by omega)]; exact a5⟩, by rw [gr _ _ (by omega)]; exact a6, by rw [gr _ _ (by omega)]; exact a7, by rw [gr _ _ (by omega)]; exact a8, a9.tr (fun b u v => k b (by omega) (by omega)) (fun j => gr _ j (by omega)), by rw [gj _ _ (by omega) (by omega)]; exact b0, by rw [g _ _ (by omega) (by omega)]; exact b1, by rw [g _ _ (by omega) (by omega)]; exact b2, by rw [g _ _ (by omega) (by omega)]; exact b3, fun j => by rw [g _ _ (by omega) (by omega)]; exact b4 j, fun j => by rw [g _ _ (by omega) (by omega)]; exact b5 j⟩
def S8 : List (Nat × Nat) := S7 ++ sgs 4
theorem k_X8 (hk : shp h a = (16, 9)) (hz : nxt h = a + 1) (h9 : a < 700000) (K : ∀ h' : Hp, Nw h h' a S8 → IsX8 h'.2.2 a → RC h' a 8 0 z16 z16 (fun _ => -1) (fun _ => []) (w00 0 8) → Q none h') : Call (d + 3) MX8_init [.ref a] h Q := by
  refine k_X8a hk hz h9 (fun h0 nw g8 gn => ?_)
  refine upto 4 (fun i H => Nw h H a (S7 ++ sgs i) ∧ G8 H a ∧ (∀ j, j < 30 → gI H (a + 1) j = -1) ∧ ∀ k, k < i → gR H (a + 2) k = some (a + 8 + 2 * k) ∧ IsX7 H.2.2 (a + 8 + 2 * k) ∧ gI H (a + 8 + 2 * k) 0 = 0) (fun i H => At (d + 3) MX8_init 79 [.ref a, .int (nI i)] [] H Q) ?_ ?_ 0 h0 (Nat.zero_le _) ⟨by rw [show S7 ++ sgs 0 = S7 from rfl]; exact nw, g8, gn, fun k hk => by omega⟩
  · rintro i H hi ⟨nw, g8, gn, sg⟩ ih
    have hzH : nxt H = a + 8 + 2 * i := by rw [nw.nx, hz, List.length_append, sgs_len]; show a + 1 + (7 + 2 * i) = _; omega
    have hkH : shp H a = (16, 9) := by rw [nw.sh (by omega)]; exact hk
    have hk2 : shp H (a + 2) = (3, 4) := nw.at (i := 1) hz
    refine At_iload_n (pc' := 80) iX8_init_79 rfl rfl ?_
    refine At_iconst (v := nI 4) (pc' := 81) iX8_init_80 rfl (by decide) ?_
    refine At_icmp_ge (t := 103) (pc' := 84) iX8_init_81 (by decide) rfl (fun z => absurd (nI_lt hi (by decide)) z) (fun _ => ?_)
    refine At_aload_n (pc' := 85) iX8_init_84 rfl rfl ?_
    refine At_getR (pc' := 88) iX8_init_85 rfl f_8_31 (by rw [hkH]) (by decide) g8.1.2.2.2.2.2 ?_
    refine At_iload_n (pc' := 89) iX8_init_88 rfl rfl ?_
    refine At_newO (c := 5) (N := 2) (z := a + 8 + 2 * i) (pc' := 92) iX8_init_89 rfl rfl rfl hzH (by omega) ?_
    refine At_dup (pc' := 93) iX8_init_92 rfl rfl ?_
    refine At_spec (pc' := 96) iX8_init_93 rfl m_8_54 (Or.inr rfl) rfl rfl (Nat.le_of_ble_eq_true rfl) (Nat.le_of_ble_eq_true rfl) ?_
    have kN : Keep H (newO H 15 2) := keep_new _ _ _
    refine k_X7 (d := d + 2) (by rw [sh_new, if_pos hzH.symm]) (by rw [nx_new, hzH]) (by omega) (fun h1 nw1 x7 c0 => ?_)
    show At (d + 3) MX8_init 96 [.ref a, .int (nI i)] [.ref (a + 8 + 2 * i), .int (nI i), .ref (a + 2)] h1 Q
    have s1 : ∀ b, b < a + 8 + 2 * i → shp h1 b = shp H b := fun b hb => by rw [nw1.sh (by rw [nx_new]; omega), sh_new, if_neg (by omega)]
    have g1 : ∀ b j, b < a + 8 + 2 * i → gI h1 b j = gI H b j := fun b j hb => by rw [nw1.2.1 b j hb, gI_new, if_neg (by omega)]
    have j1 : ∀ b j, b < a + 8 + 2 * i → gJ h1 b j = gJ H b j := fun b j hb => by rw [nw1.2.2.1 b j hb, gJ_new, if_neg (by omega)]
    have r1 : ∀ b j, b < a + 8 + 2 * i → gR h1 b j = gR H b j := fun b j hb => by rw [nw1.2.2.2 b j hb, gR_new, if_neg (by omega)]
    refine At_aast (pc' := 97) iX8_init_96 rfl (by rw [s1 _ (by omega)]; exact hk2) x7.1 (Or.inl ⟨rfl, rfl⟩) ((inB_iff (by omega)).mpr hi) ?_
    rw [nI_clamp (by omega)]
    refine At_iinc (v := nI 1) (L' := [.ref a, .int (nI (i + 1))]) (pc' := 100) iX8_init_97 rfl rfl (Nat.le_of_ble_eq_true rfl) (by decide) (by rw [nI_add]; rfl) ?_
    refine At_goto (t := 79) iX8_init_100 (by decide) (ih _ ⟨⟨?_, fun b j hb => ?_, fun b j hb => ?_, fun b j hb => ?_⟩, g8.tr (fun b j u v => g1 b j (by omega)) (fun b j u v => j1 b j (by omega)) (fun b j u => ?_) (fun b u v => s1 b (by omega)), fun j hj => ?_, fun k hk => ?_⟩)
    · show h1.2.2.2 = _
      rw [nw1.1, show (newO H 15 2).2.2.2 = H.2.2.2 ++ [(15, 2)] from rfl, nw.1]
      simp [sgs]
    · rw [gI_sR, g1 b j (by omega)]; exact nw.2.1 b j hb
    · rw [gJ_sR, j1 b j (by omega)]; exact nw.2.2.1 b j hb
    · rw [gR_sR, if_neg (by omega), r1 b j (by omega)]; exact nw.2.2.2 b j hb
    · rw [gR_sR, if_neg (by omega), r1 b j (by omega)]
    · rw [gI_sR, g1 _ _ (by omega)]; exact gn j hj
    · by_cases z : k = i
      · subst z
        refine ⟨by rw [gR_sR, if_pos ⟨rfl, rfl⟩], x7.tr (fun b u v => rfl) (fun j => ?_), by rw [gI_sR]; exact c0⟩
        show gR _ _ _ = gR _ _ _
        rw [gR_sR, if_neg (by omega)]
      · obtain ⟨u1, u2, u3⟩ := sg k (by omega)
        refine ⟨by rw [gR_sR, if_neg (by omega), r1 _ _ (by omega)]; exact u1, u2.tr (fun b u v => s1 b (by omega)) (fun j => ?_), by rw [gI_sR, g1 _ _ (by omega)]; exact u3⟩
        show gR _ _ _ = gR _ _ _
        rw [gR_sR, if_neg (by omega), r1 _ _ (by omega)]
  · rintro H ⟨nw, g8, gn, sg⟩
    refine At_iload_n (pc' := 80) iX8_init_79 rfl rfl ?_
    refine At_iconst (v := nI 4) (pc' := 81) iX8_init_80 rfl (by decide) ?_
    refine At_icmp_ge (t := 103) (pc' := 84) iX8_init_81 (by decide) rfl (fun _ => ?_) (fun z => absurd z (nI_nlt (Nat.le_refl _) (by decide)))
    refine At_retV iX8_init_103 rfl ?_
    obtain ⟨⟨a0, a1, a2, a3, a4, a5⟩, a6, a7, a8, a9, b0, b1, b2, b3, b4, b5⟩ := g8
    refine K H nw ⟨?_, nw.at (i := 0) hz, nw.at (i := 1) hz, nw.at (i := 5) hz, nw.at (i := 6) hz, a4, a5, a6, a7, a8, a9, fun k hk => ⟨(sg k hk).1, (sg k hk).2.1⟩⟩ ⟨a0, a1, by rw [a2]; exact enc_z16, by rw [a3]; exact enc_z16, gn, fun k hk => ⟨Nat.zero_le _, (sg k hk).2.2, fun i hi => absurd hi (Nat.not_lt_zero i)⟩, ⟨by rw [b0]; exact home_enc (by decide), b1, b2, fun s _ => b4 s, fun j _ => b5 j⟩, by decide, b3, fun i hi => absurd hi (Nat.not_lt_zero i)⟩
    show shp H a = _
    rw [nw.sh (by omega)]; exact hk
end Ctor
