-- a stool begun anew
def z16 : List Nat := List.replicate 16 0
theorem z16_get (s : Nat) : z16.getD s 0 = 0 := by
  unfold z16
  rw [List.getD_eq_getElem?_getD, List.getElem?_replicate]
  split <;> rfl
theorem VL_z16 (n : Nat) : VL n z16 := ⟨List.length_replicate, fun s => by rw [z16_get]; decide, fun s _ => z16_get s⟩
theorem enc_z16 : (0 : Int64) = lN (enc z16) := by decide
theorem VW_00 (x : Int32) (n : Nat) : VW n (w00 x n) := ⟨pm_range n, Nat.zero_le _, fun i hi => absurd hi (Nat.not_lt_zero i), fun _ _ => rfl⟩
theorem VS_00 (x : Int32) {n : Nat} (h4 : 4 ≤ n) (h16 : n ≤ 16) : VS n 0 z16 z16 (fun _ => -1) (fun _ => []) (w00 x n) := ⟨⟨h4, h16⟩, Nat.zero_le _, VL_z16 n, VL_z16 n, fun _ => Or.inl rfl, fun _ _ m hm => (List.not_mem_nil hm).elim, VW_00 x n⟩
def bgn (s : Int32) (n j : Nat) : Int32 := if 940 ≤ j ∧ j < 970 then -1 else if 42 ≤ j ∧ j < 58 then nI (j - 42) else if j = 0 then nI n else if j = 2 then s else nI 0
section Stool
variable {d : Nat} {T : HT} {h : Hp} {Q : Option Value → Hp → Prop} {n : Nat}
theorem s_begins (hL : Lay T) (eT : h.2.2 = T) (K : ∀ h' : Hp, h'.2 = h.2 → (∀ b j, b ≠ 60 → (b = 59 → j ≠ 3) → gI h' b j = gI h b j) → gI h' 59 3 = nI 0 → (∀ j, j < 4180 → gI h' 60 j = bgn (gI h 60 2) n j) → Q none h') : Call (d + 0) MX11_begins [.ref 59, .int (nI n)] h Q := by
  refine b_X11_begins hL eT _ ?_
  refine upto 4180 (fun i h1 => h1.2 = h.2 ∧ (∀ b j, b ≠ 60 → gI h1 b j = gI h b j) ∧ ∀ j, j < i → gI h1 60 j = nI 0) (fun i h1 => L_X11_begins_9 d (nI n) (gI h 60 2) (nI i) h1 Q) ?_ ?_ 0 h (by decide) ⟨rfl, fun _ _ _ => rfl, fun j hj => by omega⟩
  · rintro i h1 hi ⟨t, g, z⟩ ih
    refine b_X11_begins_9 hL (e2T t eT) _ _ _ ?_
    rw [nI_clamp (by omega), nI_add]
    refine ⟨fun _ => ⟨(inB_iff (by omega)).mpr hi, ih _ ⟨t, fun b j u => by rw [gI_sI_ne u]; exact g b j u, fun j hj => ?_⟩⟩, fun q => absurd (nI_lt hi (by decide)) q⟩
    rw [gI_sI_at]
    by_cases v : j = i
    · rw [if_pos v]
    · rw [if_neg v]; exact z j (by omega)
  · rintro h1 ⟨t1, g1, z1⟩
    refine b_X11_begins_9 hL (e2T t1 eT) _ _ _ ⟨fun q => absurd q (by decide), fun _ => ?_⟩
    refine upto 16 (fun i h2 => h2.2 = h.2 ∧ (∀ b j, b ≠ 60 → gI h2 b j = gI h b j) ∧ ∀ j, j < 4180 → gI h2 60 j = if 42 ≤ j ∧ j < 42 + i then nI (j - 42) else if j = 0 then nI n else if j = 2 then gI h 60 2 else nI 0) (fun i h2 => L_X11_begins_45 d (nI i) h2 Q) ?_ ?_ 0 (sI (sI h1 60 2 (gI h 60 2)) 60 0 (nI n)) (by decide) ⟨t1, fun b j u => by rw [gI_sI_ne u, gI_sI_ne u]; exact g1 b j u, fun j hj => ?_⟩
    · rintro i h2 hi ⟨t, g, z⟩ ih
      refine b_X11_begins_45 hL (e2T t eT) _ ?_
      rw [nI_add 42 i, nI_clamp (by omega), nI_add]
      refine ⟨fun _ => ⟨(inB_iff (by omega)).mpr (by omega), ih _ ⟨t, fun b j u => by rw [gI_sI_ne u]; exact g b j u, fun j hj => ?_⟩⟩, fun q => absurd (nI_lt hi (by decide)) q⟩
      rw [gI_sI_at]
      by_cases v : j = 42 + i
      · rw [if_pos v, if_pos (by omega), show j - 42 = i by omega]
      · rw [if_neg v, z j hj]
        by_cases y : 42 ≤ j ∧ j < 42 + i
        · rw [if_pos y, if_pos (show 42 ≤ j ∧ j < 42 + (i + 1) by omega)]
        · rw [if_neg y, if_neg (show ¬ (42 ≤ j ∧ j < 42 + (i + 1)) by omega)]
    · rintro h2 ⟨t2, g2, z2⟩
      refine b_X11_begins_45 hL (e2T t2 eT) _ ⟨fun q => absurd q (by decide), fun _ => ?_⟩
      refine upto 30 (fun i h3 => h3.2 = h.2 ∧ (∀ b j, b ≠ 60 → gI h3 b j = gI h b j) ∧ ∀ j, j < 4180 → gI h3 60 j = if 940 ≤ j ∧ j < 940 + i then -1 else if 42 ≤ j ∧ j < 58 then nI (j - 42) else if j = 0 then nI n else if j = 2 then gI h 60 2 else nI 0) (fun i h3 => L_X11_begins_69 d (nI i) h3 Q) ?_ ?_ 0 h2 (by decide) ⟨t2, g2, fun j hj => by rw [if_neg (by omega)]; exact z2 j hj⟩
      · rintro i h3 hi ⟨t, g, z⟩ ih
        refine b_X11_begins_69 hL (e2T t eT) _ ?_
        rw [nI_add 940 i, nI_clamp (by omega), nI_add]
        refine ⟨fun _ => ⟨(inB_iff (by omega)).mpr (by omega), ih _ ⟨t, fun b j u => by rw [gI_sI_ne u]; exact g b j u, fun j hj => ?_⟩⟩, fun q => absurd (nI_lt hi (by decide)) q⟩
        rw [gI_sI_at]
        by_cases v : j = 940 + i
        · rw [if_pos v, if_pos (by omega)]
        · rw [if_neg v, z j hj]
          by_cases y : 940 ≤ j ∧ j < 940 + i
          · rw [if_pos y, if_pos (show 940 ≤ j ∧ j < 940 + (i + 1) by omega)]
          · rw [if_neg y, if_neg (show ¬ (940 ≤ j ∧ j < 940 + (i + 1)) by omega)]
      · rintro h3 ⟨t3, g3, z3⟩
        refine b_X11_begins_69 hL (e2T t3 eT) _ ⟨fun q => absurd q (by decide), fun _ => K _ t3 (fun b j u v => ?_) rfl (fun j hj => ?_)⟩
        · rw [gI_sI, if_neg (fun q => v q.1 q.2)]; exact g3 b j u
        · rw [gI_sI_ne (by decide), z3 j hj]; rfl
    · rw [gI_sI_at, gI_sI_at, if_neg (show ¬ (42 ≤ j ∧ j < 42 + 0) by omega)]
      by_cases v : j = 0
      · rw [if_pos v, if_pos v]
      · rw [if_neg v, if_neg v]
        by_cases y : j = 2
        · rw [if_pos y, if_pos y]
        · rw [if_neg y, if_neg y]; exact z1 j hj
theorem RM_bgn {h' : Hp} {s : Int32} (h4 : 4 ≤ n) (h16 : n ≤ 16) (z : ∀ j, j < 4180 → gI h' 60 j = bgn s n j) : RM h' n 0 z16 z16 (fun _ => -1) (fun _ => []) (w00 s n) := by
  have o : ∀ j, j < 4180 → ¬ (940 ≤ j ∧ j < 970) → ¬ (42 ≤ j ∧ j < 58) → j ≠ 0 → j ≠ 2 → gI h' 60 j = nI 0 := fun j hj a b c e => by
    rw [z j hj]; unfold bgn; rw [if_neg a, if_neg b, if_neg c, if_neg e]
  refine ⟨by rw [z _ (by decide)]; rfl, o _ (by omega) (by omega) (by omega) (by omega) (by omega), fun t ht => by rw [o _ (by omega) (by omega) (by omega) (by omega) (by omega), z16_get], fun t ht => by rw [o _ (by omega) (by omega) (by omega) (by omega) (by omega), z16_get], fun i hi => ?_, fun k hk => ⟨Nat.zero_le _, o _ (by omega) (by omega) (by omega) (by omega) (by omega), fun i hi => absurd hi (Nat.not_lt_zero i)⟩, ⟨by rw [z _ (by decide)]; rfl, o _ (by omega) (by omega) (by omega) (by omega) (by omega), fun t ht => o _ (by omega) (by omega) (by omega) (by omega) (by omega), fun j hj => o _ (by omega) (by omega) (by omega) (by omega) (by omega), Nat.zero_le _, o _ (by omega) (by omega) (by omega) (by omega) (by omega), fun i hi => absurd hi (Nat.not_lt_zero i)⟩, fun t ht => ?_⟩
  · rw [z _ (by omega)]; unfold bgn; rw [if_pos (by omega)]
  · have ht : t < n := by
      have e : (w00 s n).2.2.2.1.length = n := List.length_range
      omega
    rw [z _ (by omega)]
    unfold bgn
    rw [if_neg (by omega), if_pos (by omega), show 42 + t - 42 = t by omega]
    show nI t = nI ((List.range n).getD t 0)
    rw [getD_range, if_pos ht]
theorem s_startStool (hL : Lay T) (eT : h.2.2 = T) {a : Nat} (hA : IsX8 T a) (h4 : 4 ≤ n) (h16 : n ≤ 16) (K : ∀ h' : Hp, h'.2.2 = h.2.2 → (∀ b j, ¬ (a ≤ b ∧ b < a + 16) → gI h' b j = gI h b j) → (∀ b j, ¬ (a ≤ b ∧ b < a + 16) → gJ h' b j = gJ h b j) → RC h' a n 0 z16 z16 (fun _ => -1) (fun _ => []) (w00 (gI h (a + 3) 1) n) → Q none h') : Call (d + 3) MX8_startAnew [.ref a, .int (nI n)] h Q := by
  refine b_X8_startAnew hL eT _ _ hA ?_
  refine s_fill (d := d + 2) (h := sJ (sJ (sI (sI h a 0 (nI n)) a 1 (nI 0)) a 2 (0 : Int64)) a 3 (0 : Int64)) hL eT (X8_k1 hA) (by decide) _ (fun h1 t1 g1 => ⟨rfl, e2T t1 eT, ?_⟩)
  have b1 : ∀ b j, b ≠ a + 1 → (b = a → j ≠ 0 ∧ j ≠ 1) → gI h1 b j = gI h b j := fun b j u v => by
    rw [g1, if_neg (fun k => u k.1), gI_sJ, gI_sJ, gI_sI, if_neg (fun k => (v k.1).2 k.2), gI_sI, if_neg (fun k => (v k.1).1 k.2)]
  have a0 : gI h1 a 0 = nI n := by rw [g1, if_neg (by omega), gI_sJ, gI_sJ, gI_sI_at, if_neg (by decide), gI_sI_at, if_pos rfl]
  have a1 : gI h1 a 1 = nI 0 := by rw [g1, if_neg (by omega), gI_sJ, gI_sJ, gI_sI_at, if_pos rfl]
  have a3 : ∀ i, i < 30 → gI h1 (a + 1) i = -1 := fun i hi => by rw [g1, if_pos ⟨rfl, hi⟩]
  have jj : ∀ b j, gJ h1 b j = gJ (sJ (sJ (sI (sI h a 0 (nI n)) a 1 (nI 0)) a 2 (0 : Int64)) a 3 (0 : Int64)) b j := fun b j => gJ_e2 t1 b j
  have j3 : gJ h1 a 3 = 0 := by rw [jj, gJ_sJ_at, if_pos rfl]
  have j2 : gJ h1 a 2 = 0 := by rw [jj, gJ_sJ_at, if_neg (by decide), gJ_sJ_at, if_pos rfl]
  have jo : ∀ b j, b ≠ a → gJ h1 b j = gJ h b j := fun b j u => by rw [jj, gJ_sJ_ne u, gJ_sJ_ne u]; rfl
  have T1 : h1.2.2 = h.2.2 := by rw [t1]; rfl
  refine upto 4 (fun i h2 => h2.2 = h1.2 ∧ (∀ b j, (∀ k, k < 4 → ¬ (b = a + 8 + 2 * k ∧ j = 0)) → gI h2 b j = gI h1 b j) ∧ ∀ k, k < i → gI h2 (a + 8 + 2 * k) 0 = nI 0) (fun i h2 => L_X8_startAnew_30 d a (nI n) (nI i) h2 Q) ?_ ?_ 0 h1 (by decide) ⟨rfl, fun _ _ _ => rfl, fun k hk => by omega⟩
  · rintro i h2 hi ⟨t, g, z⟩ ih
    refine b_X8_startAnew_30 hL (e2T t (T1.trans eT)) _ _ _ hA ⟨fun _ => ⟨i, rfl, hi, ?_⟩, fun q => absurd (nI_lt hi (by decide)) q⟩
    rw [nI_add]
    refine ih _ ⟨t, fun b j u => ?_, fun k hk => ?_⟩
    · rw [gI_sI, if_neg (u i hi)]; exact g b j u
    · rw [gI_sI]
      by_cases v : a + 8 + 2 * k = a + 8 + 2 * i ∧ (0 : Nat) = 0
      · rw [if_pos v]
      · rw [if_neg v]; exact z k (by omega)
  · rintro h2 ⟨t2, g2, z2⟩
    refine b_X8_startAnew_30 hL (e2T t2 (T1.trans eT)) _ _ _ hA ⟨fun q => absurd q (by decide), fun _ => ?_⟩
    refine s_startCord (d := d) hL (e2T t2 (T1.trans eT)) (X8_cord hA) h16 (fun h3 t3 g3 j3' c3 r3 => ⟨rfl, t3.trans (e2T t2 (T1.trans eT)), K h3 (t3.trans (e2T t2 T1)) (fun b j u => ?_) (fun b j u => ?_) ?_⟩)
    · rw [g3 b j (by omega) (by omega) (by omega), g2 b j (fun k hk => by omega), b1 b j (by omega) (by omega)]
    · rw [j3' b j (by omega), gJ_e2 t2, jo b j (by omega)]
    · have e1 : gI h2 (a + 3) 1 = gI h (a + 3) 1 := by rw [g2 _ _ (fun k hk => by omega), b1 _ _ (by omega) (by omega)]
      rw [e1] at c3
      refine ⟨?_, ?_, ?_, ?_, fun i hi => ?_, fun k hk => ⟨Nat.zero_le _, ?_, fun i hi => absurd hi (Nat.not_lt_zero i)⟩, c3, Nat.zero_le _, r3, fun i hi => absurd hi (Nat.not_lt_zero i)⟩
      · rw [g3 _ _ (by omega) (by omega) (by omega), g2 _ _ (fun k hk => by omega)]; exact a0
      · rw [g3 _ _ (by omega) (by omega) (by omega), g2 _ _ (fun k hk => by omega)]; exact a1
      · rw [j3' _ _ (by omega), gJ_e2 t2, j2]; exact enc_z16
      · rw [j3' _ _ (by omega), gJ_e2 t2, j3]; exact enc_z16
      · rw [g3 _ _ (by omega) (by omega) (by omega), g2 _ _ (fun k hk => by omega)]; exact a3 i hi
      · rw [g3 _ _ (by omega) (by omega) (by omega), z2 k hk]; rfl
theorem op_stool {L : Nat} {xs : Nat → Int32} (I : Inv L xs h) (x : Int32) : Op MX10_stool MX11_stool [.int x] h (Inv L xs) := by
  obtain ⟨R, n0, sl, c, q, nm, sg, w, v, rc, rm, hs⟩ := id I
  have hL := R.1
  have iM : (r_X11_isIn x (nI 4) (nI 16) = true) ↔ ∃ v, (4 ≤ v ∧ v ≤ 16) ∧ x = nI v := by
    constructor
    · intro k
      have x0 : ¬ x < 0 := fun u => isIn_neg _ (by decide) u k
      obtain ⟨t, ht, e⟩ := nI_of x0
      subst e
      exact ⟨t, (isIn_nat ht (by decide) (by decide)).mp k, rfl⟩
    · rintro ⟨t, ht, e⟩
      subst e
      exact (isIn_nat (by omega) (by decide) (by decide)).mpr ht
  have no : ¬ r_X11_isIn x (nI 4) (nI 16) = true → Call 39 MX11_stool [.ref 59, .int x] h (fun v' h2 => v' = some (.int (b2i false)) ∧ Inv L xs h2) := fun z => b_X11_stool (d := 38) hL rfl _ ⟨fun k => absurd k z, fun _ => ⟨rfl, I⟩⟩
  refine b_X10_stool (d := 35) hL rfl _ ⟨fun z => ⟨_, rfl, no (fun k => ?_)⟩, fun z => ⟨fun z2 => ⟨_, rfl, no (fun k => ?_)⟩, fun z2 => ?_⟩⟩
  · obtain ⟨t, ht, e⟩ := iM.mp k
    rw [e] at z
    exact absurd z (nI_nlt ht.1 (by omega))
  · obtain ⟨t, ht, e⟩ := iM.mp k
    rw [e] at z2
    exact absurd z2 (nI_nlt ht.2 (by decide))
  · have x0 : ¬ x < 0 := fun u => z (by
      rw [fa_lt] at u ⊢
      have : (0 : Int32).toInt = 0 := by decide
      rw [nI_toInt (by decide)]
      omega)
    obtain ⟨n, ht, e⟩ := nI_of x0
    subst e
    have h4 : 4 ≤ n := Nat.le_of_not_lt (fun u => z (nI_lt u (by decide)))
    have h16 : n ≤ 16 := Nat.le_of_not_lt (fun u => z2 (nI_lt u ht))
    have zM := iM.mpr ⟨n, ⟨h4, h16⟩, rfl⟩
    refine s_startStool (d := 35) hL rfl (isX8_12 hL) h4 h16 (fun h1 t1 g1 j1 rc1 => ⟨rfl, t1, _, rfl, ?_⟩)
    have hL1 : Lay (w_X2_forget h1).2.2 := by
      show Lay h1.2.2
      rw [t1]; exact hL
    have st : gI h 15 1 = gI (w_X2_forget h1) 60 2 := by
      show gI h 15 1 = gI h1 60 2
      rw [g1 _ _ (by omega)]
      exact (rc.2.2.2.2.2.2.1.2.1).trans rm.2.2.2.2.2.2.1.1.symm
    refine b_X11_stool (d := 38) hL1 rfl _ ⟨fun _ => s_begins (d := 38) hL1 rfl (fun h2 t2 g2 n2 z2 => ⟨rfl, by rw [t2], rfl, ?_⟩), fun k => absurd zM k⟩
    have gA : ∀ b j, ¬ (12 ≤ b ∧ b < 28) → (b = 28 → j ≠ 0) → b ≠ 60 → (b = 59 → j ≠ 3) → gI h2 b j = gI h b j := fun b j u1 u2 u3 u4 => by
      rw [g2 b j u3 u4, w_forget, if_neg (fun k => u2 k.1 k.2), g1 b j (by omega)]
    have gJA : ∀ b j, ¬ (12 ≤ b ∧ b < 28) → gJ h2 b j = gJ h b j := fun b j u => by
      rw [gJ_e2 t2]
      show gJ h1 b j = _
      rw [j1 b j (by omega)]
    refine ⟨R.tr (by rw [t2]; exact t1) (fun b j u => gA b j (by omega) (by omega) (by omega) (by omega)) (fun b j u => gJA b j (by omega)) (fun j u _ => gA _ _ (by omega) (by omega) (by omega) (fun _ => u)), n, 0, z16, z16, fun _ => -1, fun _ => [], w00 (gI h 15 1) n, VS_00 _ h4 h16, ?_, ?_, ?_⟩
    · exact rc1.tr (fun b j u v _ => by rw [g2 b j (by omega) (by omega), w_forget, if_neg (by omega)]) (fun b j u v => by rw [gJ_e2 t2]; rfl)
    · rw [st]
      exact RM_bgn h4 h16 z2
    · obtain ⟨nx, u1, u2⟩ := hs.nx
      refine HS.none ?_ n2 u1 ?_
      · rw [g2 _ _ (by omega) (by omega)]; rfl
      · rw [gA _ _ (by omega) (by omega) (by omega) (by omega)]; exact u2
end Stool
