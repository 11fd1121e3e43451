section SingM
variable {d : Nat} {T : HT} {h : Hp} {Q : Option Value → Hp → Prop} {n sl : Nat} {c : List Nat}
/-- what the model keeps of a singing's start -/
def SR (h : Hp) (n sl : Nat) (c : List Nat) (w : Cd) : Prop := gI h 60 0 = nI n ∧ gI h 60 1 = nI sl ∧ MC h 60 c ∧ CdM h w ∧ MR h w.2.2.2.1 ∧ w.2.2.2.1.length = n ∧ n ≤ 16
theorem BK_of {h h' : Hp} {j : Nat} {w : Cd} (s : SR h n sl c w) (e : ∀ i, i < 316 → gI h' 62 (316 * j + i) = gI h 60 i) : BK h' j n sl c w := by
  obtain ⟨s1, s2, s3, ⟨m1, m2, m3, m4, m5, m6, m7⟩, s5, s6, s7⟩ := s
  exact ⟨by have := e 0 (by decide); rw [Nat.add_zero] at this; rw [this]; exact s1, by rw [e _ (by decide)]; exact s2, by rw [e _ (by decide)]; exact m1, by rw [e _ (by decide)]; exact m6, by rw [e _ (by decide)]; exact m2, fun s hs => by rw [e _ (by omega)]; exact s3 s hs, fun s hs => by rw [e _ (by omega)]; exact m3 s hs, fun s hs => by rw [e _ (by omega)]; exact s5 s (by omega), fun i hi => by rw [e _ (by omega)]; exact m4 i hi⟩
theorem s_keeps52 (hL : Lay T) (eT : h.2.2 = T) {k : Nat} {us : Nat → Cd} (hM : HM h n sl c k us) (k5 : k ≤ 5) {w : Cd} (s : SR h n sl c w)
    (K : ∀ h' : Hp, h'.2 = h.2 → (∀ b j, b ≠ 62 → (b = 59 → j ≠ 3) → gI h' b j = gI h b j) → HM h' n sl c (k + 1) (fun j => if j = k then w else us j) → Q none h') : L_X11_keeps_52 d (nI 0) h Q := by
  refine upto 316 (fun i h1 => h1.2 = h.2 ∧ (∀ b j, b ≠ 62 → gI h1 b j = gI h b j) ∧ (∀ j, j < 316 * k → gI h1 62 j = gI h 62 j) ∧ ∀ j, j < i → gI h1 62 (316 * k + j) = gI h 60 j) (fun i h1 => L_X11_keeps_52 d (nI i) h1 Q) ?_ ?_ 0 h (by decide) ⟨rfl, fun _ _ _ => rfl, fun _ _ => rfl, fun j hj => by omega⟩
  · rintro i h1 hi ⟨t, g, lo, z⟩ ih
    refine b_X11_keeps_52 hL (e2T t eT) _ ?_
    rw [g 59 3 (by decide), hM.1, pk_mul, nI_add, nI_clamp (by omega), nI_clamp (by omega), nI_add]
    refine ⟨fun _ => ⟨(inB_iff (by omega)).mpr (by omega), (inB_iff (by omega)).mpr (by omega), ih _ ⟨t, fun b j u => ?_, fun j hj => ?_, fun j hj => ?_⟩⟩, fun q => absurd (nI_lt hi (by decide)) q⟩
    · rw [gI_sI_ne u]; exact g b j u
    · rw [gI_sI_at, if_neg (by omega)]; exact lo j hj
    · rw [gI_sI_at]
      by_cases v : 316 * k + j = 316 * k + i
      · rw [if_pos v, g _ _ (by decide), show j = i by omega]
      · rw [if_neg v]; exact z j (by omega)
  · rintro h1 ⟨t, g, lo, z⟩
    refine b_X11_keeps_52 hL (e2T t eT) _ ⟨fun q => absurd q (by decide), fun _ => ?_⟩
    rw [g 59 3 (by decide), hM.1, nI_add]
    refine K _ t (fun b j u v => ?_) ⟨rfl, fun j hj => ?_⟩
    · rw [gI_sI, if_neg (fun q => v q.1 q.2)]; exact g b j u
    · dsimp only
      by_cases q : j = k
      · rw [if_pos q, q]
        refine BK_of s (fun i hi => ?_)
        rw [gI_sI_ne (by decide)]
        exact z i hi
      · rw [if_neg q]
        have b := hM.2 j (by omega)
        have ge : ∀ i, i < 316 → gI (sI h1 59 3 (nI (k + 1))) 62 (316 * j + i) = gI h 62 (316 * j + i) := fun i hi => by
          rw [gI_sI_ne (by decide)]
          exact lo _ (by omega)
        obtain ⟨b1, b2, b3, b4, b5, b6, b7, b8, b9⟩ := b
        have g0 : gI (sI h1 59 3 (nI (k + 1))) 62 (316 * j) = gI h 62 (316 * j) := ge 0 (by decide)
        have hn16 := s.2.2.2.2.2.2
        exact ⟨by rw [g0]; exact b1, by rw [ge _ (by decide)]; exact b2, by rw [ge _ (by decide)]; exact b3, by rw [ge _ (by decide)]; exact b4, by rw [ge _ (by decide)]; exact b5, fun s hs => by rw [ge _ (by omega)]; exact b6 s hs, fun s hs => by rw [ge _ (by omega)]; exact b7 s hs, fun s hs => by rw [ge _ (by omega)]; exact b8 s hs, fun i hi => by rw [ge _ (by omega)]; exact b9 i hi⟩
theorem SR.tr {h h' : Hp} {w : Cd} (s : SR h n sl c w) (g : ∀ j, gI h' 60 j = gI h 60 j) : SR h' n sl c w := by
  obtain ⟨s1, s2, s3, s4, s5, s6, s7⟩ := s
  exact ⟨by rw [g]; exact s1, by rw [g]; exact s2, fun t ht => by rw [g]; exact s3 t ht, s4.congr (fun j _ => g j), fun t ht => by rw [g]; exact s5 t ht, s6, s7⟩
theorem s_keeps (hL : Lay T) (eT : h.2.2 = T) {k : Nat} {us : Nat → Cd} (hM : HM h n sl c k us) (k6 : k ≤ 6) {w : Cd} (s : SR h n sl c w)
    (K : ∀ h' : Hp, h'.2 = h.2 → (∀ b j, b ≠ 62 → (b = 59 → j ≠ 3) → gI h' b j = gI h b j) → HM h' n sl c (kU k) (uU k us w) → Q none h') : Call (d + 0) MX11_keeps [.ref 59] h Q := by
  refine b_X11_keeps hL eT ?_
  rw [hM.1]
  refine ⟨fun q => ?_, fun q => ?_⟩
  · have q : k = 6 := nI_inj (by omega) (by decide) q
    have eK : kU k = 6 := by unfold kU; rw [if_pos q]
    have eU : uU k us w = fun j => if j = 5 then w else us (j + 1) := by
      unfold uU
      funext j
      rw [if_pos q]
    rw [eK, eU] at K
    refine upto 1580 (fun i h1 => h1.2 = h.2 ∧ (∀ b j, b ≠ 62 → gI h1 b j = gI h b j) ∧ ∀ j, gI h1 62 j = if j < i then gI h 62 (j + 316) else gI h 62 j) (fun i h1 => L_X11_keeps_11 d (nI i) h1 Q) ?_ ?_ 0 h (by decide) ⟨rfl, fun _ _ _ => rfl, fun j => by rw [if_neg (by omega)]⟩
    · rintro i h1 hi ⟨t, g, z⟩ ih
      refine b_X11_keeps_11 hL (e2T t eT) _ ?_
      rw [nI_add i 316, nI_clamp (by omega), nI_clamp (by omega), nI_add]
      refine ⟨fun _ => ⟨(inB_iff (by omega)).mpr (by omega), (inB_iff (by omega)).mpr (by omega), ih _ ⟨t, fun b j u => ?_, fun j => ?_⟩⟩, fun q => absurd (nI_lt hi (by decide)) q⟩
      · rw [gI_sI_ne u]; exact g b j u
      · rw [gI_sI_at]
        by_cases v : j = i
        · rw [if_pos v, if_pos (by omega), z, if_neg (by omega), v]
        · rw [if_neg v, z]
          by_cases y : j < i
          · rw [if_pos y, if_pos (by omega)]
          · rw [if_neg y, if_neg (by omega)]
    · rintro h1 ⟨t, g, z⟩
      refine b_X11_keeps_11 hL (e2T t eT) _ ⟨fun q => absurd q (by decide), fun _ => ?_⟩
      rw [g 59 3 (by decide), hM.1, q, pk_sub (by decide)]
      refine s_keeps52 (h := sI h1 59 3 (nI (6 - 1))) (k := 5) (us := fun j => us (j + 1)) hL (e2T t eT) ⟨rfl, fun j hj => ?_⟩ (by decide) (s.tr (fun j => ?_)) (fun h2 t2 g2 m2 => K h2 (t2.trans t) (fun b j u v => ?_) m2)
      · have b := hM.2 (j + 1) (by omega)
        have ge : ∀ i, i < 316 → gI (sI h1 59 3 (nI (6 - 1))) 62 (316 * j + i) = gI h 62 (316 * (j + 1) + i) := fun i hi => by
          rw [gI_sI_ne (by decide), z, if_pos (by omega), show 316 * j + i + 316 = 316 * (j + 1) + i by omega]
        obtain ⟨b1, b2, b3, b4, b5, b6, b7, b8, b9⟩ := b
        have g0 : gI (sI h1 59 3 (nI (6 - 1))) 62 (316 * j) = gI h 62 (316 * (j + 1)) := ge 0 (by decide)
        have hn16 := s.2.2.2.2.2.2
        exact ⟨by rw [g0]; exact b1, by rw [ge _ (by decide)]; exact b2, by rw [ge _ (by decide)]; exact b3, by rw [ge _ (by decide)]; exact b4, by rw [ge _ (by decide)]; exact b5, fun s hs => by rw [ge _ (by omega)]; exact b6 s hs, fun s hs => by rw [ge _ (by omega)]; exact b7 s hs, fun s hs => by rw [ge _ (by omega)]; exact b8 s hs, fun i hi => by rw [ge _ (by omega)]; exact b9 i hi⟩
      · rw [gI_sI_ne (by decide)]; exact g _ _ (by decide)
      · rw [g2 b j u v, gI_sI, if_neg (fun q => v q.1 q.2)]; exact g b j u
  · have q : k ≠ 6 := fun e => q (by rw [e])
    have eK : kU k = k + 1 := by unfold kU; rw [if_neg q]
    have eU : uU k us w = fun j => if j = k then w else us j := by
      unfold uU
      funext j
      rw [if_neg q]
    rw [eK, eU] at K
    exact s_keeps52 hL eT hM (by omega) s K
def frS (h h' : Hp) : Prop := ∀ b j, b ≠ 65 → b ≠ 66 → b ≠ 62 → (b = 59 → j ≠ 3) → (b = 60 → ¬ (tch j ∨ (42 ≤ j ∧ j < 58))) → gI h' b j = gI h b j
theorem s_singM (hL : Lay T) (eT : h.2.2 = T) {sg : Nat → List Mv} (hb : MB h n c sg) (hsl : gI h 60 1 = nI sl) (h1000 : sl ≤ 1000) {k N : Nat} (hk : k < 4) (hN1 : 1 ≤ N) (hN50 : N ≤ 50) {p : Sg} (k6 : p.1 ≤ 6) (vw : VW n p.2.2.1) (hv : HV n p.2.2.1 p.1 p.2.1) (p0 : p.2.2.2 = nI 0) (hH : HM h n sl c p.1 p.2.1) (hC : CdM h p.2.2.1) (hR : MR h p.2.2.1.2.2.2.1)
    (K : ∀ h' : Hp, h'.2 = h.2 → frS h h' → HM h' n sl c (sng sl c (sg k) p N).1 (sng sl c (sg k) p N).2.1 → CdM h' (sng sl c (sg k) p N).2.2.1 → MR h' (sng sl c (sg k) p N).2.2.1.2.2.2.1 → Q (some (.int (sng sl c (sg k) p N).2.2.2)) h') : Call (d + 4) MX11_sing [.ref 59, .int (nI k), .int (nI N)] h Q := by
  obtain ⟨c1, ⟨c2, c3⟩, ⟨c4, c5, c6⟩, c7⟩ := id hb
  have ok := sng_ok (sl := sl) (c := c) (s := sg k) (p := p) (show 0 < n by omega) c3 c5 (c7 k hk).2 k6 vw hv
  refine b_X11_sing hL eT _ _ ⟨fun _ => ⟨fun _ => ?_, fun z => absurd ((isIn_nat (by omega) (by decide) (by decide)).mpr ⟨hN1, hN50⟩) z⟩, fun z => absurd (isSongM_iff.mpr ⟨k, hk, rfl⟩) z⟩
  have main := upto N (fun i h1 => h1.2 = h.2 ∧ frS h h1 ∧ HM h1 n sl c (sng sl c (sg k) p i).1 (sng sl c (sg k) p i).2.1 ∧ CdM h1 (sng sl c (sg k) p i).2.2.1 ∧ MR h1 (sng sl c (sg k) p i).2.2.1.2.2.2.1) (fun i h1 => L_X11_sing_24 d (nI k) (nI N) (sng sl c (sg k) p i).2.2.2 (nI i) h1 Q) ?_ ?_ 0 h (Nat.zero_le _) ⟨rfl, fun _ _ _ _ _ _ _ => rfl, hH, hC, hR⟩
  · have e : (sng sl c (sg k) p 0).2.2.2 = nI 0 := p0
    rw [e] at main
    exact main
  · rintro i h1 hi ⟨t1, f1, M1, C1, R1⟩ ih
    have g1 : ∀ j, ¬ (tch j ∨ (42 ≤ j ∧ j < 58)) → gI h1 60 j = gI h 60 j := fun j u => f1 60 j (by decide) (by decide) (by decide) (by omega) (fun _ => u)
    have hb1 : MB h1 n c sg := hb.tr (fun j u => g1 j (by unfold tch; omega))
    have hs1 : gI h1 60 1 = nI sl := by rw [g1 _ (by unfold tch; omega)]; exact hsl
    refine b_X11_sing_24 hL (e2T t1 eT) _ _ _ _ ⟨fun _ => ?_, fun z => absurd (nI_lt hi (by omega)) z⟩
    refine s_keeps (d := d + 3) hL (e2T t1 eT) M1 (ok i).1 ⟨hb1.1, hs1, hb1.2.2.1.1, C1, R1, (ok i).2.1.1.1, c3⟩ (fun h2 t2 g2 M2 => ⟨rfl, e2T (t2.trans t1) eT, ?_⟩)
    have g60 : ∀ j, gI h2 60 j = gI h1 60 j := fun j => g2 60 j (by decide) (by omega)
    refine s_singsTruly (d := d) hL (e2T (t2.trans t1) eT) (hb1.tr (fun j _ => g60 j)) (by rw [g60]; exact hs1) h1000 (ok i).2.1.1 (fun s hs => by rw [g60]; exact R1 s hs) (C1.congr (fun j _ => g60 j)) hk (fun h3 t3 f3 C3 R3 => ⟨_, rfl, e2T (t3.trans (t2.trans t1)) eT, ?_⟩)
    rw [nI_add i 1]
    refine ih h3 ⟨t3.trans (t2.trans t1), fun b j u v w x y => ?_, M2.tr (fun i => f3 _ _ (by decide) (by decide) (by omega)) (f3 _ _ (by decide) (by decide) (by omega)), C3, R3⟩
    rw [f3 b j u v y, g2 b j w x, f1 b j u v w x y]
  · rintro h1 ⟨t1, f1, M1, C1, R1⟩
    exact b_X11_sing_24 hL (e2T t1 eT) _ _ _ _ ⟨fun z => absurd z (nI_nlt (Nat.le_refl _) (by omega)), fun _ => K h1 t1 f1 M1 C1 R1⟩
theorem op_sing {L : Nat} {xs : Nat → Int32} (I : Inv L xs h) (x1 x2 : Int32) : Op MX10_sing MX11_sing [.int x1, .int x2] h (Inv L xs) := by
  obtain ⟨R, n, sl, c, q, nm, sg, w, v, rc, rm, hs⟩ := id I
  have hL := R.1
  have hb := RM.mb v rm
  obtain ⟨⟨v1, v2⟩, v3, v4, v5, v6, v7, v8⟩ := id v
  have no : ∀ r : Int32, r = -1 → ¬ (r_X11_isSong x1 = true ∧ r_X11_isIn x2 (nI 1) (nI 50) = true) → Call 39 MX11_sing [.ref 59, .int x1, .int x2] h (fun v' h2 => v' = some (.int r) ∧ Inv L xs h2) := by
    intro r er z
    subst er
    exact b_X11_sing (d := 35) hL rfl _ _ ⟨fun k1 => ⟨fun k2 => absurd ⟨k1, k2⟩ z, fun _ => ⟨rfl, I⟩⟩, fun _ => ⟨rfl, I⟩⟩
  by_cases z : (∃ v, v < 4 ∧ x1 = nI v) ∧ ∃ v, (1 ≤ v ∧ v ≤ 50) ∧ x2 = nI v
  · obtain ⟨⟨k, hk, e1⟩, N, ⟨N1, N50⟩, e2⟩ := z
    subst e1
    subst e2
    obtain ⟨kk, nx, us, hc, hm, hv⟩ := hs
    have k6 := hc.1
    obtain ⟨r1, r2, r3, r4, r5, r6, r7, r8⟩ := rc
    obtain ⟨m1, m2, m3, m4, m5, m6, m7, m8⟩ := rm
    have ok := sng_ok (sl := sl) (c := c) (s := sg k) (p := (kk, us, w, nI 0)) (show 0 < n by omega) v2 (VL_sm v4) (v7 k hk) k6 v8 hv N
    refine s_singC (d := 34) (p := (kk, us, w, nI 0)) hL rfl r1 v1 v2 (VL_sm v4) (by have := v4.1; omega) r3 r2 v3 hk (r6 k hk) (v7 k hk) N1 N50 k6 v8 hv rfl hc r7 r8 (fun h1 t1 f1 H1 C1 R1 => ⟨_, rfl, ?_⟩)
    have g1 : ∀ b j, (b = 15 → j ≠ 1 ∧ j ≠ 2 ∧ j ≠ 3) → ¬ (16 ≤ b ∧ b ≤ 18) → ¬ (28 ≤ b ∧ b < 48) → gI h1 b j = gI h b j := f1.1
    have hL1 : Lay h1.2.2 := by rw [t1]; exact hL
    refine s_singM (d := 35) (p := (kk, us, w, nI 0)) hL1 rfl (hb.tr (fun j _ => g1 _ _ (by omega) (by omega) (by omega))) (by rw [g1 _ _ (by omega) (by omega) (by omega)]; exact m2) v3 hk N1 N50 k6 v8 hv rfl (hm.tr (fun i => g1 _ _ (by omega) (by omega) (by omega)) (g1 _ _ (by omega) (by omega) (by omega))) (m7.congr (fun j _ => g1 _ _ (by omega) (by omega) (by omega))) (fun s hs => by rw [g1 _ _ (by omega) (by omega) (by omega)]; exact m8 s hs) (fun h2 t2 f2 M2 C2 R2 => ⟨rfl, ?_⟩)
    have gA : ∀ b j, (b = 15 → j ≠ 1 ∧ j ≠ 2 ∧ j ≠ 3) → ¬ (16 ≤ b ∧ b ≤ 18) → ¬ (28 ≤ b ∧ b < 48) → b ≠ 65 → b ≠ 66 → b ≠ 62 → (b = 59 → j ≠ 3) → (b = 60 → ¬ (tch j ∨ (42 ≤ j ∧ j < 58))) → gI h2 b j = gI h b j := fun b j u1 u2 u3 u4 u5 u6 u7 u8 => by rw [f2 b j u4 u5 u6 u7 u8, g1 b j u1 u2 u3]
    have gJA : ∀ b j, b ≠ 15 → ¬ (28 ≤ b ∧ b < 48) → gJ h2 b j = gJ h b j := fun b j u v => by rw [gJ_e2 t2, f1.2 b j u v]
    have g60 : ∀ j, ¬ (tch j ∨ (42 ≤ j ∧ j < 58)) → gI h2 60 j = gI h 60 j := fun j u => gA 60 j (by omega) (by omega) (by omega) (by omega) (by omega) (by omega) (by omega) (fun _ => u)
    have gc : ∀ b j, 12 ≤ b → b < 48 → gI h2 b j = gI h1 b j := fun b j u v => f2 b j (by omega) (by omega) (by omega) (by omega) (by omega)
    obtain ⟨nx1, H1⟩ := H1
    refine ⟨R.tr (by rw [t2, t1]) (fun b j u => gA b j (by omega) (by omega) (by omega) (by omega) (by omega) (by omega) (by omega) (by omega)) (fun b j u => gJA b j (by omega) (by omega)) (fun j u _ => gA _ _ (by omega) (by omega) (by omega) (by omega) (by omega) (by omega) (fun _ => u) (by omega)), n, sl, c, q, nm, sg, (sng sl c (sg k) (kk, us, w, nI 0) N).2.2.1, ⟨⟨v1, v2⟩, v3, v4, v5, v6, v7, ok.2.1⟩, ?_, ?_, ?_⟩
    · refine ⟨by rw [gA _ _ (by omega) (by omega) (by omega) (by omega) (by omega) (by omega) (by omega) (by omega)]; exact r1, by rw [gA _ _ (by omega) (by omega) (by omega) (by omega) (by omega) (by omega) (by omega) (by omega)]; exact r2, by rw [gJA _ _ (by omega) (by omega)]; exact r3, by rw [gJA _ _ (by omega) (by omega)]; exact r4, fun i hi => by rw [gA _ _ (by omega) (by omega) (by omega) (by omega) (by omega) (by omega) (by omega) (by omega)]; exact r5 i hi, fun k hk => (r6 k hk).tr (fun b j u v => gA b j (by omega) (by omega) (by omega) (by omega) (by omega) (by omega) (by omega) (by omega)), C1.tr (fun b j u v => gc b j (by omega) (by omega)) (gJ_e2 t2 _ _), R1.tr (gc _ _ (by omega) (by omega)) (fun j => gc _ _ (by omega) (by omega))⟩
    · refine ⟨by rw [g60 _ (by unfold tch; omega)]; exact m1, by rw [g60 _ (by unfold tch; omega)]; exact m2, fun s hs => by rw [g60 _ (by unfold tch; omega)]; exact m3 s hs, fun s hs => by rw [g60 _ (by unfold tch; omega)]; exact m4 s hs, fun s hs => by rw [g60 _ (by unfold tch; omega)]; exact m5 s hs, fun k hk => (m6 k hk).tr2 (fun j hj => g60 _ (by unfold tch; omega)), C2, R2⟩
    · exact ⟨_, nx1, _, H1.tr (fun b j u v => gc b j (by omega) (by omega)) (fun b j _ _ => gJ_e2 t2 b j), M2, ok.2.2⟩
  · have zM : ¬ (r_X11_isSong x1 = true ∧ r_X11_isIn x2 (nI 1) (nI 50) = true) := by
      rintro ⟨k1, k2⟩
      apply z
      refine ⟨isSongM_iff.mp k1, ?_⟩
      have x0 : ¬ x2 < 0 := fun u => isIn_neg _ (by decide) u k2
      obtain ⟨t, ht, e⟩ := nI_of x0
      subst e
      exact ⟨t, (isIn_nat ht (by decide) (by decide)).mp k2, rfl⟩
    refine b_X10_sing (d := 34) hL rfl _ _ ⟨fun k1 => ⟨fun k2 => ⟨_, rfl, no _ rfl zM⟩, fun k2 => ⟨fun k3 => ⟨_, rfl, no _ rfl zM⟩, fun k3 => ?_⟩⟩, fun k1 => ⟨_, rfl, no _ rfl zM⟩⟩
    have x0 : ¬ x2 < 0 := fun u => k2 (by
      rw [fa_lt] at u ⊢
      have : (0 : Int32).toInt = 0 := by decide
      rw [nI_toInt (by decide)]
      omega)
    obtain ⟨t, ht, e⟩ := nI_of x0
    subst e
    exact absurd ⟨isSongC_iff.mp k1, t, ⟨Nat.le_of_not_lt (fun u => k2 (nI_lt u (by decide))), Nat.le_of_not_lt (fun u => k3 (nI_lt u ht))⟩, rfl⟩ z
-- a singing undone
theorem gQ_pre {R S : List (Nat × Nat)} (p : R <+: S) {i : Nat} (hi : i < R.length) : gQ R i = gQ S i := by
  obtain ⟨t, e⟩ := p
  rw [← e]
  unfold gQ
  rw [List.getD_eq_getElem?_getD, List.getD_eq_getElem?_getD, List.getElem?_append_left hi]
theorem s_undoM (hL : Lay T) (eT : h.2.2 = T) {k : Nat} (k6 : k ≤ 6) (k0 : 0 < k) (h3 : gI h 59 3 = nI k) (K : ∀ h' : Hp, h'.2 = h.2 → (∀ b j, (b = 59 → j ≠ 3) → (b = 60 → ¬ j < 316) → gI h' b j = gI h b j) → gI h' 59 3 = nI (k - 1) → (∀ j, j < 316 → gI h' 60 j = gI h 62 (316 * (k - 1) + j)) → Q (some (.int (b2i true))) h') : Call (d + 0) MX11_undo [.ref 59] h Q := by
  refine b_X11_undo hL eT ?_
  rw [h3]
  refine ⟨fun z => by have := (nI_eq0 (by omega)).mp z; omega, fun _ => ?_⟩
  rw [pk_sub (by omega)]
  refine upto 316 (fun i h1 => h1.2 = h.2 ∧ (∀ b j, (b = 59 → j ≠ 3) → (b = 60 → ¬ j < 316) → gI h1 b j = gI h b j) ∧ gI h1 59 3 = nI (k - 1) ∧ ∀ j, j < i → gI h1 60 j = gI h 62 (316 * (k - 1) + j)) (fun i h1 => L_X11_undo_21 d (nI i) h1 Q) ?_ ?_ 0 (sI h 59 3 (nI (k - 1))) (by decide) ⟨rfl, fun b j u _ => by rw [gI_sI, if_neg (fun z => u z.1 z.2)], rfl, fun j hj => by omega⟩
  · rintro i h1 hi ⟨t, g, n3, z⟩ ih
    refine b_X11_undo_21 hL (e2T t eT) _ ?_
    rw [n3, pk_mul, nI_add, nI_clamp (by omega), nI_clamp (by omega), nI_add]
    refine ⟨fun _ => ⟨(inB_iff (by omega)).mpr (by omega), (inB_iff (by omega)).mpr (by omega), ih _ ⟨t, fun b j u v => ?_, by rw [gI_sI_ne (by decide)]; exact n3, fun j hj => ?_⟩⟩, fun q => absurd (nI_lt hi (by decide)) q⟩
    · rw [gI_sI, if_neg (fun q => v q.1 (by omega))]; exact g b j u v
    · rw [gI_sI_at]
      by_cases v : j = i
      · rw [if_pos v, v, g _ _ (by omega) (by omega)]
      · rw [if_neg v]; exact z j (by omega)
  · rintro h1 ⟨t, g, n3, z⟩
    exact b_X11_undo_21 hL (e2T t eT) _ ⟨fun q => absurd q (by decide), fun _ => K h1 t g n3 z⟩
theorem op_undo {L : Nat} {xs : Nat → Int32} (I : Inv L xs h) : Op MX10_undo MX11_undo [] h (Inv L xs) := by
  obtain ⟨R, n, sl, c, q, nm, sg, w, v, rc, rm, hs⟩ := id I
  have hL := R.1
  obtain ⟨⟨v1, v2⟩, v3, v4, v5, v6, v7, v8⟩ := id v
  obtain ⟨k, nx, us, ⟨k6, hnx, h28, h281, hcc⟩, hm, hv1, hv2, hv3⟩ := id hs
  refine b_X10_undo (d := 37) hL rfl (b_X2_goBack (d := 37) hL rfl _ (isX1_15 hL) ?_)
  rw [h28]
  refine ⟨fun z => ⟨_, rfl, rfl, _, rfl, b_X11_undo (d := 39) hL rfl ⟨fun _ => ⟨rfl, I⟩, fun y => ?_⟩⟩, fun z => ?_⟩
  · have := (nI_eq0 (by omega)).mp z
    rw [hm.1, this] at y
    exact absurd rfl y
  · have k0 : 0 < k := by
      have : k ≠ 0 := fun e => z (by rw [e]; rfl)
      omega
    have enx : irem (nI nx + nI 6 - nI 1) (nI 6) = nI ((nx + 5) % 6) := by rw [nI_add, pk_sub (by omega), irem_nI (by omega) (by decide) (by decide), show nx + 6 - 1 = nx + 5 by omega]
    rw [h281, enx]
    refine ⟨(nx + 5) % 6, by rw [gI_sI_at, if_pos rfl], by omega, _, rfl, rfl, _, rfl, ?_⟩
    have dj : 15 + 3 ≤ 30 + 3 * ((nx + 5) % 6) ∨ 30 + 3 * ((nx + 5) % 6) + 3 ≤ 15 := by omega
    have e0 : gI (w_X1_copy 15 (30 + 3 * ((nx + 5) % 6)) (sI h 28 1 (nI ((nx + 5) % 6)))) 28 0 = nI k := by
      rw [gI_copy dj, if_neg (by omega), if_neg (by omega), if_neg (by omega), if_neg (by omega), if_neg (by omega), gI_sI_at, if_neg (by omega)]; exact h28
    rw [e0, pk_sub (by omega)]
    obtain ⟨u1, u2⟩ := hcc (k - 1) (by omega)
    rw [show (nx + 6 - k + (k - 1)) % 6 = (nx + 5) % 6 by omega] at u1 u2
    have g1 : ∀ b j, (b = 15 → ¬ (j = 1 ∨ j = 2 ∨ j = 3)) → b ≠ 16 → b ≠ 17 → (b = 28 → j ≠ 0 ∧ j ≠ 1) → gI (sI (w_X1_copy 15 (30 + 3 * ((nx + 5) % 6)) (sI h 28 1 (nI ((nx + 5) % 6)))) 28 0 (nI (k - 1))) b j = gI h b j := fun b j y1 y2 y3 y4 => by
      rw [gI_sI, if_neg (fun z => (y4 z.1).1 z.2), gI_copy dj, if_neg (by omega), if_neg (by omega), if_neg (by omega), if_neg (by omega), if_neg (by omega), gI_sI, if_neg (fun z => (y4 z.1).2 z.2)]
    have j1 : ∀ b j, b ≠ 15 → gJ (sI (w_X1_copy 15 (30 + 3 * ((nx + 5) % 6)) (sI h 28 1 (nI ((nx + 5) % 6)))) 28 0 (nI (k - 1))) b j = gJ h b j := fun b j y => by
      show gJ (w_X1_copy 15 (30 + 3 * ((nx + 5) % 6)) (sI h 28 1 (nI ((nx + 5) % 6)))) b j = _
      rw [gJ_copy, if_neg (by omega)]; rfl
    have c1 : CC (sI (w_X1_copy 15 (30 + 3 * ((nx + 5) % 6)) (sI h 28 1 (nI ((nx + 5) % 6)))) 28 0 (nI (k - 1))) 15 (us (k - 1)) := by
      have u1' : CC (sI h 28 1 (nI ((nx + 5) % 6))) (30 + 3 * ((nx + 5) % 6)) (us (k - 1)) := u1.tr (fun b j x y => gI_sI_ne (by omega)) rfl
      exact (CC_copy dj u1').tr (fun b j x y => gI_sI_ne (by omega)) rfl
    have c3 : gI (sI (w_X1_copy 15 (30 + 3 * ((nx + 5) % 6)) (sI h 28 1 (nI ((nx + 5) % 6)))) 28 0 (nI (k - 1))) 15 3 = nI (us (k - 1)).2.2.2.2.2.length := by
      rw [gI_sI_ne (by decide), gI_copy dj, if_neg (by omega), if_neg (by omega), if_pos ⟨rfl, rfl⟩, gI_sI_ne (by omega)]; exact u2
    have s0 : gI (sI (w_X1_copy 15 (30 + 3 * ((nx + 5) % 6)) (sI h 28 1 (nI ((nx + 5) % 6)))) 28 0 (nI (k - 1))) 28 0 = nI (k - 1) := rfl
    have s1 : gI (sI (w_X1_copy 15 (30 + 3 * ((nx + 5) % 6)) (sI h 28 1 (nI ((nx + 5) % 6)))) 28 0 (nI (k - 1))) 28 1 = nI ((nx + 5) % 6) := by
      rw [gI_sI_at, if_neg (by decide), gI_copy dj, if_neg (by omega), if_neg (by omega), if_neg (by omega), if_neg (by omega), if_neg (by omega), gI_sI_at, if_pos rfl]
    have gt : (sI (w_X1_copy 15 (30 + 3 * ((nx + 5) % 6)) (sI h 28 1 (nI ((nx + 5) % 6)))) 28 0 (nI (k - 1))).2.2 = h.2.2 := rfl
    generalize sI (w_X1_copy 15 (30 + 3 * ((nx + 5) % 6)) (sI h 28 1 (nI ((nx + 5) % 6)))) 28 0 (nI (k - 1)) = h1 at *
    have hL1 : Lay h1.2.2 := by rw [gt]; exact hL
    refine s_undoM (d := 39) hL1 rfl k6 k0 (by rw [g1 _ _ (by omega) (by omega) (by omega) (by omega)]; exact hm.1) (fun h2 t2 g2 n3 z2 => ⟨rfl, ?_⟩)
    have gA : ∀ b j, (b = 15 → ¬ (j = 1 ∨ j = 2 ∨ j = 3)) → b ≠ 16 → b ≠ 17 → (b = 28 → j ≠ 0 ∧ j ≠ 1) → (b = 59 → j ≠ 3) → (b = 60 → ¬ j < 316) → gI h2 b j = gI h b j := fun b j y1 y2 y3 y4 y5 y6 => by rw [g2 b j y5 y6, g1 b j y1 y2 y3 y4]
    have gJA : ∀ b j, b ≠ 15 → gJ h2 b j = gJ h b j := fun b j y => by rw [gJ_e2 t2, j1 b j y]
    have z60 : ∀ j, j < 316 → gI h2 60 j = gI h 62 (316 * (k - 1) + j) := fun j hj => by rw [z2 j hj, g1 _ _ (by omega) (by omega) (by omega) (by omega)]
    have h60 : ∀ j, 316 ≤ j → gI h2 60 j = gI h 60 j := fun j hj => gA _ _ (by omega) (by omega) (by omega) (by omega) (by omega) (by omega)
    have gc : ∀ b j, 12 ≤ b → b < 48 → gI h2 b j = gI h1 b j := fun b j y1 y2 => g2 b j (by omega) (by omega)
    have bk := hm.2 (k - 1) (by omega)
    have pre := hv3 (k - 1) (by omega)
    have vw := hv1 (k - 1) (by omega)
    obtain ⟨r1, r2, r3, r4, r5, r6, r7, r8⟩ := rc
    obtain ⟨m1, m2, m3, m4, m5, m6, ⟨_, _, _, _, m75, _, m77⟩, m8⟩ := rm
    have hlen := pre.length_le
    refine ⟨R.tr (by rw [t2, gt]) (fun b j y => gA b j (by omega) (by omega) (by omega) (by omega) (by omega) (by omega)) (fun b j y => gJA b j (by omega)) (fun j y _ => gA _ _ (by omega) (by omega) (by omega) (by omega) (fun _ => y) (by omega)), n, sl, c, q, nm, sg, us (k - 1), ⟨⟨v1, v2⟩, v3, v4, v5, v6, v7, vw⟩, ?_, ?_, ?_⟩
    · refine ⟨by rw [gA _ _ (by omega) (by omega) (by omega) (by omega) (by omega) (by omega)]; exact r1, by rw [gA _ _ (by omega) (by omega) (by omega) (by omega) (by omega) (by omega)]; exact r2, by rw [gJA _ _ (by omega)]; exact r3, by rw [gJA _ _ (by omega)]; exact r4, fun i hi => by rw [gA _ _ (by omega) (by omega) (by omega) (by omega) (by omega) (by omega)]; exact r5 i hi, fun k hk => (r6 k hk).tr (fun b j x y => gA b j (by omega) (by omega) (by omega) (by omega) (by omega) (by omega)), c1.tr (fun b j x y => gc b j (by omega) (by omega)) (gJ_e2 t2 _ _), vw.2.1, ?_, fun i hi => ?_⟩
      · rw [gc _ _ (by omega) (by omega)]; exact c3
      · rw [gQ_pre pre hi, gA _ _ (by omega) (by omega) (by omega) (by omega) (by omega) (by omega)]
        exact r8.2.2 i (by omega)
    · obtain ⟨b1, b2, b3, b4, b5, b6, b7, b8, b9⟩ := bk
      refine ⟨by rw [z60 _ (by omega), Nat.add_zero]; exact b1, by rw [z60 _ (by omega)]; exact b2, fun s hs => by rw [z60 _ (by omega)]; exact b6 s hs, fun s hs => by rw [h60 _ (by omega)]; exact m4 s hs, fun s hs => by rw [h60 _ (by omega)]; exact m5 s hs, fun k hk => (m6 k hk).tr2 (fun j hj => h60 _ (by omega)), ⟨by rw [z60 _ (by omega)]; exact b3, by rw [z60 _ (by omega)]; exact b5, fun s hs => by rw [z60 _ (by omega)]; exact b7 s hs, fun j hj => by rw [z60 _ (by omega)]; exact b9 j hj, vw.2.1, by rw [z60 _ (by omega)]; exact b4, fun i hi => ?_⟩, fun s hs => ?_⟩
      · rw [h60 _ (by omega), h60 _ (by omega), gQ_pre pre hi]
        exact m77 i (by omega)
      · have := vw.1.1
        rw [z60 _ (by omega)]
        exact b8 s (by omega)
    · refine ⟨k - 1, (nx + 5) % 6, us, ⟨by omega, by omega, by rw [gc _ _ (by omega) (by omega)]; exact s0, by rw [gc _ _ (by omega) (by omega)]; exact s1, fun j hj => ?_⟩, ⟨n3, fun j hj => (hm.2 j (by omega)).tr (fun i => gA _ _ (by omega) (by omega) (by omega) (by omega) (by omega) (by omega))⟩, fun j hj => hv1 j (by omega), fun i j hij hj => hv2 i j hij (by omega), fun j hj => hv2 j (k - 1) (by omega) (by omega)⟩
      obtain ⟨y1, y2⟩ := hcc j (by omega)
      have e : ((nx + 5) % 6 + 6 - (k - 1) + j) % 6 = (nx + 6 - k + j) % 6 := by omega
      rw [e]
      exact ⟨y1.tr (fun b j x y => gA b j (by omega) (by omega) (by omega) (by omega) (by omega) (by omega)) (gJA _ _ (by omega)), by rw [gA _ _ (by omega) (by omega) (by omega) (by omega) (by omega) (by omega)]; exact y2⟩
end SingM
