-- a text becomes a song
section Text
variable {d : Nat} {T : HT} {h : Hp} {Q : Option Value → Hp → Prop} {tp : Nat → Nat} {n iE m : Nat}
theorem iE_ex (tp : Nat → Nat) (n : Nat) : ∃ iE, iE ≤ n ∧ tS tp n iE = n ∧ ∀ j, j < iE → tS tp n j < n := by
  have le := fa_first_le (fun i => decide (¬ tS tp n i < n)) (n + 1)
  have no := fa_first_no (fun i => decide (¬ tS tp n i < n)) (n + 1)
  have yes := fa_first_yes (fun i => decide (¬ tS tp n i < n)) (n + 1)
  generalize fa_first (fun i => decide (¬ tS tp n i < n)) (n + 1) = iE at *
  have al : ∀ j, j < iE → tS tp n j < n := fun j hj => Classical.not_not.mp (of_decide_eq_false (no j hj))
  have lt : iE ≤ n := by
    have a := ps_ge (tp := tp) iE al
    have b := ps_b (tp := tp) (n := n) iE
    omega
  have y := of_decide_eq_true (yes (by omega))
  have := (tS_b (tp := tp) (n := n) iE).2
  exact ⟨iE, lt, by omega, al⟩
theorem hE_of (h8 : tS tp n iE = n) : ∀ i, tK tp n i ≠ 0 → i < iE := fun i hi => by
  rcases Nat.lt_or_ge i iE with w | w
  · exact w
  · have := tS_end h8 (i - iE)
    rw [show iE + (i - iE) = i by omega] at this
    exact absurd (tK_0.mpr this) hi
def frT (h h' : Hp) (k : Nat) : Prop := h'.2 = h.2 ∧ ∀ b j, b ≠ 63 → (b = 59 → ¬ (7 ≤ j ∧ j ≤ 16)) → (b = 60 → j ≠ 975 + k ∧ ¬ (980 + 800 * k ≤ j ∧ j < 1780 + 800 * k)) → gI h' b j = gI h b j
theorem s_textM (hL : Lay T) (eT : h.2.2 = T) (t : TM h tp n) (hm : gI h 60 0 = nI m) (m4 : 4 ≤ m) (m16 : m ≤ 16) (h8 : tS tp n iE = n) (h4 : iE ≤ 400) {f k : Nat} (hk : k < 4) {res : Rs (Nat × Mk)} (hp : pS (tK tp n) (tN tp n) m f 0 0 (0, []) = some res)
    (Kf : ∀ h' e, txA tp n m res = .inl e → frT h h' k → gI h' 60 (975 + k) = gI h 60 (975 + k) → (∀ j, 980 + 800 * k ≤ j → j < 1780 + 800 * k → gI h' 60 j = gI h 60 j) → gI h' 59 8 = nI 0 → gI h' 59 15 = nI e.1 → gI h' 59 16 = nI (tS tp n e.2) → Q (some (.int (-1))) h')
    (Kt : ∀ h' c, txA tp n m res = .inr c → frT h h' k → gI h' 59 8 = nI 0 → gI h' 59 15 = nI 0 → gI h' 59 16 = -1 → MG h' 60 k c.2 → c.2.length = c.1 → Q (some (.int (nI c.1))) h') : Call (d + 14) MX11_text [.ref 59, .int (nI k)] h Q := by
  have hE := hE_of h8
  refine b_X11_text (d := d + 8) hL eT _ ⟨fun _ => ?_, fun z => absurd (isSongM_iff.mpr ⟨k, hk, rfl⟩) z⟩
  have gH : ∀ b j, (b = 59 → j ≠ 7 ∧ j ≠ 9 ∧ j ≠ 13 ∧ j ≠ 15 ∧ j ≠ 16) → gI (sI (sI (sI (sI (sI h 59 15 (nI 0)) 59 16 (-1)) 59 13 (nI 0)) 59 9 (nI 0)) 59 7 (nI 0)) b j = gI h b j := fun b j u => by
    rw [gI_sI, if_neg (fun q => (u q.1).1 q.2), gI_sI, if_neg (fun q => (u q.1).2.1 q.2), gI_sI, if_neg (fun q => (u q.1).2.2.1 q.2), gI_sI, if_neg (fun q => (u q.1).2.2.2.2 q.2), gI_sI, if_neg (fun q => (u q.1).2.2.2.1 q.2)]
  have g15 : gI (sI (sI (sI (sI (sI h 59 15 (nI 0)) 59 16 (-1)) 59 13 (nI 0)) 59 9 (nI 0)) 59 7 (nI 0)) 59 15 = nI 0 := rfl
  have g16 : gI (sI (sI (sI (sI (sI h 59 15 (nI 0)) 59 16 (-1)) 59 13 (nI 0)) 59 9 (nI 0)) 59 7 (nI 0)) 59 16 = -1 := rfl
  have g9 : gI (sI (sI (sI (sI (sI h 59 15 (nI 0)) 59 16 (-1)) 59 13 (nI 0)) 59 9 (nI 0)) 59 7 (nI 0)) 59 9 = nI 0 := rfl
  have g7 : gI (sI (sI (sI (sI (sI h 59 15 (nI 0)) 59 16 (-1)) 59 13 (nI 0)) 59 9 (nI 0)) 59 7 (nI 0)) 59 7 = nI 0 := rfl
  have gt : (sI (sI (sI (sI (sI h 59 15 (nI 0)) 59 16 (-1)) 59 13 (nI 0)) 59 9 (nI 0)) 59 7 (nI 0)).2 = h.2 := rfl
  generalize sI (sI (sI (sI (sI h 59 15 (nI 0)) 59 16 (-1)) 59 13 (nI 0)) 59 9 (nI 0)) 59 7 (nI 0) = H at *
  have tH : TM H tp n := t.tr (gH _ _ (by omega)) (fun j => gH _ _ (by omega))
  have eH : H.2.2 = T := e2T gt eT
  have mH : gI H 60 0 = nI m := by rw [gH _ _ (by omega)]; exact hm
  refine s_next0 (d := d + 8 + 3) (p := 0) hL eH tH (Nat.zero_le _) g9 (fun h1 t1 gx a9 a11 a10 a12 => ⟨rfl, e2T t1 eH, ?_⟩)
  have ms0 : Ms tp n H h1 0 (0, []) := by
    refine ⟨⟨t1, fun b j u w => gx b j (by omega)⟩, a9, a10, a11, fun q => ?_, by rw [gx _ _ (by omega)]; exact g7, fun x hx => absurd hx (Nat.not_lt_zero x)⟩
    have z : tS tp n 0 < n := by
      rcases Nat.lt_or_ge (tS tp n 0) n with w | w
      · exact w
      · have := (tS_b (tp := tp) (n := n) 0).2
        have := tK_0.mpr (show tS tp n 0 = n by omega)
        omega
    have kq : kR tp (tS tp n 0) (eR tp n (tS tp n 0)) = 2 := by
      unfold tK at q
      rw [if_pos z] at q
      exact q
    rw [a12 z (kR_2 kq)]
    unfold tN
    rw [if_pos z]
    rfl
  refine b_X11_someSteps (d := d + 8) hL (e2T t1 eH) _ ?_
  -- a fault found
  have bad : ∀ (e : Nat × Nat) (h' : Hp), txA tp n m res = .inl e → Mf tp n H h' e.1 e.2 → L_X11_text_86 (d + 8) (nI k) (b2i false) h' Q := by
    intro e h' ee fl
    obtain ⟨⟨f1, f2⟩, f3, f4⟩ := id fl
    refine b_X11_text_86 hL (fl.eT eH) _ _ ⟨fun _ => ?_, fun z => absurd rfl z⟩
    have x1 : gI (sI h' 59 8 (nI 0)) 59 13 = nI e.1 := by rw [gI_sI_at, if_neg (by decide)]; exact f3
    have x2 : ∀ v, gI (sI (sI h' 59 8 (nI 0)) 59 15 v) 59 14 = nI (tS tp n e.2) := fun v => by rw [gI_sI_at, if_neg (by decide), gI_sI_at, if_neg (by decide)]; exact f4
    rw [x1, x2]
    have g : ∀ b j, (b = 59 → j ≠ 8 ∧ j ≠ 15 ∧ j ≠ 16) → gI (sI (sI (sI h' 59 8 (nI 0)) 59 15 (nI e.1)) 59 16 (nI (tS tp n e.2))) b j = gI h' b j := fun b j u => by rw [gI_sI, if_neg (fun q => (u q.1).2.2 q.2), gI_sI, if_neg (fun q => (u q.1).2.1 q.2), gI_sI, if_neg (fun q => (u q.1).1 q.2)]
    refine Kf _ e ee ⟨f1.trans gt, fun b j u w _ => ?_⟩ ?_ (fun j _ _ => ?_) ?_ ?_ ?_
    · rw [g b j (by omega), f2 b j u (by omega), gH b j (by omega)]
    · rw [g _ _ (by omega), f2 _ _ (by decide) (by omega), gH _ _ (by omega)]
    · rw [g _ _ (by omega), f2 _ _ (by decide) (by omega), gH _ _ (by omega)]
    · rfl
    · rfl
    · rfl
  have bad66 : ∀ (e : Nat × Nat) (h' : Hp), txA tp n m res = .inl e → Mf tp n H h' e.1 e.2 → L_X11_text_66 (d + 8) (nI k) (b2i false) h' Q := fun e h' ee fl => b_X11_text_66 hL (fl.eT eH) _ _ ⟨fun _ => bad e h' ee fl, fun z => absurd rfl z⟩
  refine s_stepsM (iE := iE) hL eH tH mH hE h4 (by omega) m16 f 0 d 0 (0, []) h1 res (by decide) ms0 ⟨rfl, fun x hx => (List.not_mem_nil hx).elim⟩ (Nat.zero_le _) (Nat.zero_le _) hp (fun e ee h' fl => ⟨_, rfl, fl.eT eH, fun w => absurd w (by decide), fun _ => bad66 e h' (by rw [ee]; rfl) fl⟩) (fun q eq h' r => ⟨_, rfl, r.eT eH, fun _ => ?_, fun w => absurd rfl w⟩)
  obtain ⟨b1, b2, b3, b4, b5⟩ := pS_ok (nn := tN tp n) (show 0 < m by omega) hE f 0 0 (0, []) q (by decide) (Nat.zero_le _) ⟨rfl, fun x hx => (List.not_mem_nil hx).elim⟩ (by rw [hp, eq])
  have b5 : q.2.1 ≤ q.1 * 6561 := by
    have e1 : ((0, []) : Mk).1 + (q.1 - 0) * 9 ^ (4 - 0) = q.1 * 6561 := by show 0 + (q.1 - 0) * 9 ^ 4 = _; omega
    rw [e1] at b5
    exact b5
  have ex : txA tp n m res = if tK tp n q.1 = 0 then (if 200 < q.2.1 then .inl (4, q.1) else .inr q.2) else .inl (1, q.1) := by rw [eq]; rfl
  obtain ⟨⟨f1, f2⟩, r2, r3, r4, r5, r6, r7⟩ := id r
  rw [r3, show (0 : Int32) = nI (mkT 0) from rfl, mkT_eq (tK_le _) (by decide)]
  refine ⟨fun k0 => ?_, fun k0 => ?_⟩
  · rw [if_pos k0] at ex
    refine b_X11_text_66 hL (r.eT eH) _ _ ⟨fun z => absurd z (by decide), fun _ => ?_⟩
    rw [r6]
    refine ⟨fun big => ?_, fun big => ?_⟩
    · have big := (nI_ltI (by decide) (by omega)).mp big
      rw [if_pos big] at ex
      exact bad (4, q.1) _ ex (bad_mf r)
    · have big : ¬ 200 < q.2.1 := fun u => big (nI_lt u (by omega))
      rw [if_neg big] at ex
      have el : q.2.2.length = q.2.1 := by have := b3.1; omega
      refine b_X11_text_86 hL (r.eT eH) _ _ ⟨fun z => absurd z (by decide), fun _ => ?_⟩
      have x7 : gI (sI h' 59 8 (nI 0)) 59 7 = nI q.2.1 := by rw [gI_sI_at, if_neg (by decide)]; exact r6
      rw [nI_add 975 k, nI_clamp (by omega), x7]
      refine ⟨(inB_iff (by omega)).mpr (by omega), ?_⟩
      refine upto (4 * q.2.1) (fun i h2 => (h2.2 = h'.2 ∧ (∀ b j, (b = 59 → j ≠ 8) → (b = 60 → j ≠ 975 + k ∧ ¬ (980 + 800 * k ≤ j ∧ j < 1780 + 800 * k)) → gI h2 b j = gI h' b j)) ∧ gI h2 59 8 = nI 0 ∧ gI h2 60 (975 + k) = nI q.2.1 ∧ ∀ j, j < i → gI h2 60 (980 + 800 * k + j) = gI h' 63 j) (fun i h2 => L_X11_text_129 (d + 8) (nI k) (nI i) h2 Q) ?_ ?_ 0 (sI (sI h' 59 8 (nI 0)) 60 (975 + k) (nI q.2.1)) (Nat.zero_le _) ⟨⟨rfl, fun b j u w => by rw [gI_sI, if_neg (fun q => (w q.1).1 q.2), gI_sI, if_neg (fun q => u q.1 q.2)]⟩, rfl, by rw [gI_sI_at, if_pos rfl], fun j hj => by omega⟩
      · rintro i h2 hi ⟨⟨e2, g2⟩, n8, n975, z2⟩ ih
        refine b_X11_text_129 hL (e2T e2 (r.eT eH)) _ _ ?_
        rw [g2 59 7 (by omega) (by omega), r6, pk_mul, pk_mul, nI_add 980 _, nI_add _ i, nI_clamp (by omega), nI_clamp (by omega), nI_add i 1, g2 63 i (by omega) (by omega)]
        refine ⟨fun _ => ⟨(inB_iff (by omega)).mpr (by omega), (inB_iff (by omega)).mpr (by omega), ih _ ⟨⟨e2, fun b j u w => ?_⟩, by rw [gI_sI_ne (by decide)]; exact n8, by rw [gI_sI_at, if_neg (by omega)]; exact n975, fun j hj => ?_⟩⟩, fun z => absurd (nI_lt hi (by omega)) z⟩
        · rw [gI_sI, if_neg (fun q => (w q.1).2 (by omega))]; exact g2 b j u w
        · rw [gI_sI_at]
          by_cases y : 980 + 800 * k + j = 980 + 800 * k + i
          · rw [if_pos y, show j = i by omega]
          · rw [if_neg y]; exact z2 j (by omega)
      · rintro h2 ⟨⟨e2, g2⟩, n8, n975, z2⟩
        refine b_X11_text_129 hL (e2T e2 (r.eT eH)) _ _ ?_
        rw [g2 59 7 (by omega) (by omega), r6, pk_mul]
        refine ⟨fun z => absurd z (nI_nlt (Nat.le_refl _) (by omega)), fun _ => Kt h2 q.2 ex ⟨e2.trans (f1.trans gt), fun b j u w y => ?_⟩ n8 ?_ ?_ ⟨by omega, by rw [n975, el], fun i hi => ?_⟩ el⟩
        · rw [g2 b j (by omega) y, f2 b j u (by omega), gH b j (by omega)]
        · rw [g2 _ _ (by omega) (by omega), f2 _ _ (by decide) (by omega)]; exact g15
        · rw [g2 _ _ (by omega) (by omega), f2 _ _ (by decide) (by omega)]; exact g16
        · have a0 := z2 (4 * i) (by omega)
          have a1 := z2 (4 * i + 1) (by omega)
          have a2 := z2 (4 * i + 2) (by omega)
          have a3 := z2 (4 * i + 3) (by omega)
          rw [← Nat.add_assoc] at a1 a2 a3
          rw [a0, a1, a2, a3]
          exact r7 i hi
  · rw [if_neg k0] at ex
    exact bad66 (1, q.1) _ ex (bad_mf r)
theorem op_text {L : Nat} {xs : Nat → Int32} (I : Inv L xs h) (x : Int32) : Op MX10_text MX11_text [.int x] h (Inv L xs) := by
  obtain ⟨R, nn, sl, c, q, nm, sg, w, v, rc, rm, hs⟩ := id I
  have hL := R.1
  obtain ⟨⟨v1, v2⟩, v3, v4, v5, v6, v7, v8⟩ := id v
  obtain ⟨r1, ⟨n, tp, t1, t2, t3, t4⟩, r3, r4, r5, r6, r7⟩ := id R
  have gF : ∀ b j, (b = 2 → j ≠ 0 ∧ j ≠ 1) → gI (w_X5_forgetFault h) b j = gI h b j := fun b j u => by
    unfold w_X5_forgetFault
    rw [gI_sI, if_neg (fun k => (u k.1).2 k.2), gI_sI, if_neg (fun k => (u k.1).1 k.2)]
  have tF : (w_X5_forgetFault h).2 = h.2 := rfl
  have F0 : gI (w_X5_forgetFault h) 2 0 = nI 0 := rfl
  have F1 : gI (w_X5_forgetFault h) 2 1 = -1 := rfl
  -- both at their end: what else there is is as it was
  have close : ∀ h' : Hp, h'.2 = h.2 → (∀ b j, ¬ (2 ≤ b ∧ b ≤ 11) → ¬ (20 ≤ b ∧ b < 28) → b ≠ 63 → (b = 59 → ¬ (7 ≤ j ∧ j ≤ 16)) → (b = 60 → ¬ 975 ≤ j) → gI h' b j = gI h b j) → gI h' 3 0 = nI 0 → gI h' 59 8 = nI 0 → gI h' 2 0 = gI h' 59 15 → gI h' 2 1 = gI h' 59 16 → (∃ sg' : Nat → List Mv, (∀ k, k < 4 → sgN nn (sg' k)) ∧ (∀ k, k < 4 → SG h' (20 + 2 * k) (sg' k)) ∧ ∀ k, k < 4 → MG h' 60 k (sg' k)) → Inv L xs h' := by
    rintro h' e g n3 n8 fa fb ⟨sg', g1, g2, g3⟩
    have eT : h'.2.2 = h.2.2 := by rw [e]
    refine ⟨⟨by rw [eT]; exact r1, ⟨0, tp, Nat.zero_le _, n3, n8, fun i hi => by omega⟩, ⟨fa, fb⟩, fun j hj => ?_, r5.tr eT (fun b j u => g b j (by omega) (by omega) (by omega) (by omega) (by omega)) (fun b j _ => gJ_e2 e b j) (fun j => g _ _ (by omega) (by omega) (by omega) (by omega) (by omega)) (g _ _ (by omega) (by omega) (by omega) (by omega) (by omega)), r6.tr eT, r7.tr eT (fun j => g _ _ (by omega) (by omega) (by omega) (by omega) (by omega))⟩, nn, sl, c, q, nm, sg', w, ⟨⟨v1, v2⟩, v3, v4, v5, v6, g1, v8⟩, ?_, ?_, hs.tr (fun b j u v => g b j (by omega) (by omega) (by omega) (by omega) (by omega)) (fun b j _ _ => gJ_e2 e b j) (fun i => g _ _ (by omega) (by omega) (by omega) (by omega) (by omega)) (g _ _ (by omega) (by omega) (by omega) (by omega) (by omega))⟩
    · rw [g _ _ (by omega) (by omega) (by omega) (by omega) (by omega), g _ _ (by omega) (by omega) (by omega) (by omega) (by omega)]
      exact r4 j hj
    · obtain ⟨a1, a2, a3, a4, a5, a6, a7, a8⟩ := rc
      refine ⟨by rw [g _ _ (by omega) (by omega) (by omega) (by omega) (by omega)]; exact a1, by rw [g _ _ (by omega) (by omega) (by omega) (by omega) (by omega)]; exact a2, by rw [gJ_e2 e]; exact a3, by rw [gJ_e2 e]; exact a4, fun i hi => by rw [g _ _ (by omega) (by omega) (by omega) (by omega) (by omega)]; exact a5 i hi, g2, a7.tr (fun b j u v => g b j (by omega) (by omega) (by omega) (by omega) (by omega)) (gJ_e2 e _ _), a8.tr (g _ _ (by omega) (by omega) (by omega) (by omega) (by omega)) (fun j => g _ _ (by omega) (by omega) (by omega) (by omega) (by omega))⟩
    · obtain ⟨a1, a2, a3, a4, a5, a6, a7, a8⟩ := rm
      have hl := v8.1.1
      exact ⟨by rw [g _ _ (by omega) (by omega) (by omega) (by omega) (by omega)]; exact a1, by rw [g _ _ (by omega) (by omega) (by omega) (by omega) (by omega)]; exact a2, fun s hs => by rw [g _ _ (by omega) (by omega) (by omega) (by omega) (by omega)]; exact a3 s hs, fun s hs => by rw [g _ _ (by omega) (by omega) (by omega) (by omega) (by omega)]; exact a4 s hs, fun s hs => by rw [g _ _ (by omega) (by omega) (by omega) (by omega) (by omega)]; exact a5 s hs, g3, a7.congr (fun j hj => g _ _ (by omega) (by omega) (by omega) (by omega) (by unfold tch at hj; omega)), fun s hs => by rw [g _ _ (by omega) (by omega) (by omega) (by omega) (by omega)]; exact a8 s hs⟩
  by_cases z : ∃ v, v < 4 ∧ x = nI v
  · obtain ⟨k, hk, e⟩ := z
    subst e
    obtain ⟨iE, i1, i2, i3⟩ := iE_ex tp n
    obtain ⟨res, hp⟩ := pS_ex (kk := tK tp n) (nn := tN tp n) (m := nn) (show 0 < nn by omega) (hE_of i2) (iE + 1) 0 0 (0, []) (by decide) (Nat.zero_le _) ⟨rfl, fun x hx => (List.not_mem_nil hx).elim⟩ (by omega)
    have tc : TC (w_X5_forgetFault h) tp n := ⟨t1, by rw [gF _ _ (by omega)]; exact t2, fun i hi => (t4 i hi).1, fun i hi => by rw [gF _ _ (by omega)]; exact (t4 i hi).2.1⟩
    have nF : gI (w_X5_forgetFault h) 12 0 = nI nn := by rw [gF _ _ (by omega)]; exact rc.1
    refine b_X10_text (d := 33) hL rfl _ ⟨fun _ => ?_, fun y => absurd (isSongC_iff.mpr ⟨k, hk, rfl⟩) y⟩
    rw [nF]
    refine s_readAll (d := 33) (h := w_X5_forgetFault h) hL rfl tc i2 i3 v1 v2 hp (fun h1 e ee fl => ⟨_, rfl, fl.eT rfl, fun w => absurd w (by decide), fun _ => ⟨_, rfl, ?_⟩⟩) (fun h1 cc ec fb f0 f1 vc cl dr => ⟨_, rfl, by rw [fb.1]; rfl, fun _ => ⟨k, rfl, hk, ?_⟩, fun w => absurd rfl w⟩)
    · -- a fault
      obtain ⟨⟨b1, b2⟩, b3, b4⟩ := fl
      have gA : ∀ b j, ¬ (2 ≤ b ∧ b ≤ 11) → gI (sI h1 3 0 (nI 0)) b j = gI h b j := fun b j u => by rw [gI_sI_ne (by omega), b2 b j u, gF b j (by omega)]
      have eA : (sI h1 3 0 (nI 0)).2 = h.2 := b1
      have m2 : gI (sI h1 3 0 (nI 0)) 2 0 = nI e.1 := by rw [gI_sI_ne (by decide)]; exact b3
      have m3 : gI (sI h1 3 0 (nI 0)) 2 1 = nI (tS tp n e.2) := by rw [gI_sI_ne (by decide)]; exact b4
      have m0 : gI (sI h1 3 0 (nI 0)) 3 0 = nI 0 := rfl
      generalize sI h1 3 0 (nI 0) = h2 at *
      refine s_textM (d := 25) (iE := iE) (m := nn) (by rw [eA]; exact hL) rfl (⟨t1, by rw [gA _ _ (by omega)]; exact t3, fun i hi => (t4 i hi).1, fun i hi => by rw [gA _ _ (by omega)]; exact (t4 i hi).2.2⟩ : TM h2 tp n) (by rw [gA _ _ (by omega)]; exact rm.1) v1 v2 i2 (by omega) hk hp (fun h3 e' ee' fr k1 k2 n8 n15 n16 => ⟨rfl, ?_⟩) (fun h3 cc ec => ?_)
      · rw [ee] at ee'
        have ee' := Sum.inl.inj ee'
        subst ee'
        have f60 : ∀ j, gI h3 60 j = gI h 60 j := fun j => by
          by_cases y : j = 975 + k
          · rw [y, k1, gA _ _ (by omega)]
          · by_cases y2 : 980 + 800 * k ≤ j ∧ j < 1780 + 800 * k
            · rw [k2 j y2.1 y2.2, gA _ _ (by omega)]
            · rw [fr.2 60 j (by omega) (by omega) (fun _ => ⟨y, y2⟩), gA _ _ (by omega)]
        have fo : ∀ b j, b ≠ 63 → (b = 59 → ¬ (7 ≤ j ∧ j ≤ 16)) → b ≠ 60 → gI h3 b j = gI h2 b j := fun b j u1 u2 u3 => fr.2 b j u1 u2 (fun y => absurd y u3)
        refine close h3 (fr.1.trans eA) (fun b j u1 u2 u3 u4 u5 => ?_) ?_ n8 ?_ ?_ ⟨sg, v7, fun k' hk' => (rc.2.2.2.2.2.1 k' hk').tr (fun b j x y => ?_), fun k' hk' => (rm.2.2.2.2.2.1 k' hk').tr f60⟩
        · by_cases y : b = 60
          · rw [y]; exact f60 j
          · rw [fo b j u3 u4 y, gA b j u1]
        · rw [fo _ _ (by omega) (by omega) (by omega)]; exact m0
        · rw [fo _ _ (by omega) (by omega) (by omega), m2, n15]
        · rw [fo _ _ (by omega) (by omega) (by omega), m3, n16]
        · rw [fo _ _ (by omega) (by omega) (by omega), gA _ _ (by omega)]
      · rw [ee] at ec; cases ec
    · -- a song
      obtain ⟨b1, b2⟩ := fb
      obtain ⟨d1, d2, d3⟩ := dr
      have el : cc.2.length = cc.1 := by have := vc.1; omega
      have g8 : gI (sI h1 (20 + 2 * k) 0 (gI h1 8 0)) 8 0 = nI cc.2.length := by rw [gI_sI_ne (by omega)]; exact d1
      have eW : w_X7_copy (20 + 2 * k) 8 h1 = cpI (sI h1 (20 + 2 * k) 0 (nI cc.2.length)) 9 0 (20 + 2 * k + 1) 0 cc.2.length := by
        unfold w_X7_copy
        rw [g8, nI_clamp (by omega), d1]
      have eP : p_X7_copy (20 + 2 * k) 8 h1 := by
        unfold p_X7_copy
        rw [g8, nI_clamp (by omega)]
        refine ⟨⟨by decide, by decide, nI_pos (by omega), ?_, ?_⟩, trivial⟩
        · rw [nI_clamp (by omega)]; omega
        · rw [nI_clamp (by omega)]; omega
      rw [eW]
      have gW : ∀ b j, gI (cpI (sI h1 (20 + 2 * k) 0 (nI cc.2.length)) 9 0 (20 + 2 * k + 1) 0 cc.2.length) b j = if b = 20 + 2 * k + 1 ∧ j < cc.2.length then gI h1 9 j else if b = 20 + 2 * k ∧ j = 0 then nI cc.2.length else gI h1 b j := fun b j => by
        rw [gI_cpI]
        by_cases y : b = 20 + 2 * k + 1 ∧ j < cc.2.length
        · rw [if_pos ⟨y.1, by omega, by omega⟩, if_pos y, gI_sI_ne (by omega), show 0 + (j - 0) = j by omega]
        · rw [if_neg (fun u => y ⟨u.1, by omega⟩), if_neg y, gI_sI]
      refine ⟨eP, k, rfl, hk, _, rfl, ?_⟩
      rw [gW, if_neg (by omega), if_pos ⟨rfl, rfl⟩, el]
      have gA : ∀ b j, ¬ (2 ≤ b ∧ b ≤ 11) → b ≠ 20 + 2 * k → b ≠ 20 + 2 * k + 1 → gI (sI (cpI (sI h1 (20 + 2 * k) 0 (nI cc.2.length)) 9 0 (20 + 2 * k + 1) 0 cc.2.length) 3 0 (nI 0)) b j = gI h b j := fun b j u u2 u3 => by rw [gI_sI_ne (by omega), gW, if_neg (fun y => u3 y.1), if_neg (fun y => u2 y.1), b2 b j u, gF b j (by omega)]
      have gS : SG (sI (cpI (sI h1 (20 + 2 * k) 0 (nI cc.2.length)) 9 0 (20 + 2 * k + 1) 0 cc.2.length) 3 0 (nI 0)) (20 + 2 * k) cc.2 := ⟨by omega, by rw [gI_sI_ne (by omega), gW, if_neg (by omega), if_pos ⟨rfl, rfl⟩], fun i hi => by rw [gI_sI_ne (by omega), gW, if_pos ⟨rfl, hi⟩]; exact d2 i hi⟩
      have m2 : gI (sI (cpI (sI h1 (20 + 2 * k) 0 (nI cc.2.length)) 9 0 (20 + 2 * k + 1) 0 cc.2.length) 3 0 (nI 0)) 2 0 = nI 0 := by rw [gI_sI_ne (by decide), gW, if_neg (by omega), if_neg (by omega), f0]; exact F0
      have m3 : gI (sI (cpI (sI h1 (20 + 2 * k) 0 (nI cc.2.length)) 9 0 (20 + 2 * k + 1) 0 cc.2.length) 3 0 (nI 0)) 2 1 = -1 := by rw [gI_sI_ne (by decide), gW, if_neg (by omega), if_neg (by omega), f1]; exact F1
      have m0 : gI (sI (cpI (sI h1 (20 + 2 * k) 0 (nI cc.2.length)) 9 0 (20 + 2 * k + 1) 0 cc.2.length) 3 0 (nI 0)) 3 0 = nI 0 := rfl
      have eA : (sI (cpI (sI h1 (20 + 2 * k) 0 (nI cc.2.length)) 9 0 (20 + 2 * k + 1) 0 cc.2.length) 3 0 (nI 0)).2 = h.2 := b1
      rw [el] at gA gS m2 m3 m0 eA
      generalize sI (cpI (sI h1 (20 + 2 * k) 0 (nI cc.1)) 9 0 (20 + 2 * k + 1) 0 cc.1) 3 0 (nI 0) = h2 at *
      refine s_textM (d := 25) (iE := iE) (m := nn) (by rw [eA]; exact hL) rfl (⟨t1, by rw [gA _ _ (by omega) (by omega) (by omega)]; exact t3, fun i hi => (t4 i hi).1, fun i hi => by rw [gA _ _ (by omega) (by omega) (by omega)]; exact (t4 i hi).2.2⟩ : TM h2 tp n) (by rw [gA _ _ (by omega) (by omega) (by omega)]; exact rm.1) v1 v2 i2 (by omega) hk hp (fun h3 e' ee' => ?_) (fun h3 cc' ec' fr n8 n15 n16 mg el' => ?_)
      · rw [ec] at ee'; cases ee'
      · rw [ec] at ec'
        have ec' := Sum.inr.inj ec'
        subst ec'
        refine ⟨rfl, ?_⟩
        have fo : ∀ b j, b ≠ 63 → (b = 59 → ¬ (7 ≤ j ∧ j ≤ 16)) → b ≠ 60 → gI h3 b j = gI h2 b j := fun b j u1 u2 u3 => fr.2 b j u1 u2 (fun y => absurd y u3)
        refine close h3 (fr.1.trans eA) (fun b j u1 u2 u3 u4 u5 => ?_) ?_ n8 ?_ ?_ ⟨fun k' => if k' = k then cc.2 else sg k', fun k' hk' => ?_, fun k' hk' => ?_, fun k' hk' => ?_⟩
        · rw [fr.2 b j u3 u4 (by omega), gA b j u1 (by omega) (by omega)]
        · rw [fo _ _ (by omega) (by omega) (by omega)]; exact m0
        · rw [fo _ _ (by omega) (by omega) (by omega), m2, n15]
        · rw [fo _ _ (by omega) (by omega) (by omega), m3, n16]
        · dsimp only
          split
          · exact vc.2
          · exact v7 k' hk'
        · dsimp only
          by_cases y : k' = k
          · rw [if_pos y, y]
            exact gS.tr (fun b j x y => fo b j (by omega) (by omega) (by omega))
          · rw [if_neg y]
            exact (rc.2.2.2.2.2.1 k' hk').tr (fun b j x y => by rw [fo b j (by omega) (by omega) (by omega), gA b j (by omega) (by omega) (by omega)])
        · dsimp only
          by_cases y : k' = k
          · rw [if_pos y, y]; exact mg
          · rw [if_neg y]
            have g60 : ∀ j, (j ≠ 975 + k ∧ ¬ (980 + 800 * k ≤ j ∧ j < 1780 + 800 * k)) → gI h3 60 j = gI h 60 j := fun j u => by rw [fr.2 60 j (by decide) (by omega) (fun _ => u), gA _ _ (by omega) (by omega) (by omega)]
            obtain ⟨a1, a2, a3⟩ := rm.2.2.2.2.2.1 k' hk'
            refine ⟨a1, by rw [g60 _ (by omega)]; exact a2, fun i hi => ?_⟩
            rw [g60 _ (by omega), g60 _ (by omega), g60 _ (by omega), g60 _ (by omega)]
            exact a3 i hi
  · refine b_X10_text (d := 33) hL rfl _ ⟨fun y => absurd (isSongC_iff.mp y) z, fun _ => ⟨_, rfl, b_X11_text (d := 33) (h := sI (w_X5_forgetFault h) 3 0 (nI 0)) hL rfl _ ⟨fun y => absurd (isSongM_iff.mp y) z, fun _ => ⟨rfl, ?_⟩⟩⟩⟩
    have g : ∀ b j, (b = 2 → j ≠ 0 ∧ j ≠ 1) → (b = 3 → j ≠ 0) → (b = 59 → ¬ (7 ≤ j ∧ j ≤ 16)) → gI (sI (sI (sI (sI (sI (sI (sI (w_X5_forgetFault h) 3 0 (nI 0)) 59 15 (nI 0)) 59 16 (-1)) 59 13 (nI 0)) 59 9 (nI 0)) 59 7 (nI 0)) 59 8 (nI 0)) b j = gI h b j := fun b j u1 u2 u3 => by
      rw [gI_sI, if_neg (by omega), gI_sI, if_neg (by omega), gI_sI, if_neg (by omega), gI_sI, if_neg (by omega), gI_sI, if_neg (by omega), gI_sI, if_neg (by omega), gI_sI, if_neg (by omega)]
      exact gF b j u1
    exact close _ rfl (fun b j u1 u2 u3 u4 u5 => g b j (by omega) (by omega) u4) rfl rfl rfl rfl ⟨sg, v7, fun k' hk' => (rc.2.2.2.2.2.1 k' hk').tr (fun b j x y => g b j (by omega) (by omega) (by omega)), fun k' hk' => (rm.2.2.2.2.2.1 k' hk').tr (fun j => g _ _ (by omega) (by omega) (by omega))⟩
end Text
