section OpImg
variable {d : Nat} {T : HT} {h : Hp} {Q : Option Value → Hp → Prop} {n sl : Nat} {c q : List Nat} {nm : Nat → Int32} {sg : Nat → List Mv} {w : Cd} {L : Nat} {xs : Nat → Int32}
theorem s_imgTake (hL : Lay T) (eT : h.2.2 = T) (K : ∀ h' : Hp, h'.2 = h.2 → (∀ b j, b ≠ 61 → (b = 59 → j ≠ 4) → gI h' b j = gI h b j) → (∀ j, j < 4180 → gI h' 61 j = gI h 60 j) → gI h' 59 4 = nI 1 → Q (some (.int (b2i true))) h') : Call (d + 0) MX11_image [.ref 59, .int (nI 1)] h Q := by
  refine b_X11_image hL eT _ ⟨fun z => absurd z (by decide), fun _ => ?_⟩
  refine upto 4180 (fun i h1 => h1.2 = h.2 ∧ (∀ b j, b ≠ 61 → gI h1 b j = gI h b j) ∧ ∀ j, j < i → gI h1 61 j = gI h 60 j) (fun i h1 => L_X11_image_15 d (nI 1) (nI i) h1 Q) ?_ ?_ 0 h (Nat.zero_le _) ⟨rfl, fun _ _ _ => rfl, fun j hj => by omega⟩
  · rintro i h1 hi ⟨e2, g, z⟩ ih
    refine b_X11_image_15 hL (e2T e2 eT) _ _ ⟨fun _ => ⟨fun z => absurd z (by decide), fun _ => ?_⟩, fun z => absurd (nI_lt hi (by decide)) z⟩
    rw [nI_clamp (by omega), nI_add, g 60 i (by decide)]
    refine ⟨(inB_iff (by omega)).mpr hi, (inB_iff (by omega)).mpr hi, ih _ ⟨e2, fun b j hb => by rw [gI_sI_ne hb]; exact g b j hb, fun j hj => ?_⟩⟩
    rw [gI_sI_at]
    by_cases y : j = i
    · rw [if_pos y, y]
    · rw [if_neg y]; exact z j (by omega)
  · rintro h1 ⟨e2, g, z⟩
    refine b_X11_image_15 hL (e2T e2 eT) _ _ ⟨fun z => absurd z (nI_nlt (Nat.le_refl _) (by decide)), fun _ => ⟨fun z => absurd z (by decide), fun _ => ?_⟩⟩
    exact K _ e2 (fun b j u v => by rw [gI_sI, if_neg (fun z => v z.1 z.2)]; exact g b j u) (fun j hj => by rw [gI_sI_ne (by decide)]; exact z j hj) (by rw [gI_sI_at, if_pos rfl])
theorem s_imgBack (hL : Lay T) (eT : h.2.2 = T) (h4 : gI h 59 4 = nI 1) (K : ∀ h' : Hp, h'.2 = h.2 → (∀ b j, b ≠ 60 → (b = 59 → j ≠ 4 ∧ j ≠ 3) → gI h' b j = gI h b j) → (∀ j, j < 4180 → gI h' 60 j = gI h 61 j) → gI h' 59 4 = nI 1 → gI h' 59 3 = nI 0 → Q (some (.int (b2i true))) h') : Call (d + 0) MX11_image [.ref 59, .int (nI 0)] h Q := by
  refine b_X11_image hL eT _ ⟨fun _ => ⟨fun z => absurd z (by rw [h4]; decide), fun _ => ?_⟩, fun z => absurd rfl z⟩
  refine upto 4180 (fun i h1 => h1.2 = h.2 ∧ (∀ b j, b ≠ 60 → gI h1 b j = gI h b j) ∧ ∀ j, j < i → gI h1 60 j = gI h 61 j) (fun i h1 => L_X11_image_15 d (nI 0) (nI i) h1 Q) ?_ ?_ 0 h (Nat.zero_le _) ⟨rfl, fun _ _ _ => rfl, fun j hj => by omega⟩
  · rintro i h1 hi ⟨e2, g, z⟩ ih
    refine b_X11_image_15 hL (e2T e2 eT) _ _ ⟨fun _ => ⟨fun _ => ?_, fun z => absurd rfl z⟩, fun z => absurd (nI_lt hi (by decide)) z⟩
    rw [nI_clamp (by omega), nI_add, g 61 i (by decide)]
    refine ⟨(inB_iff (by omega)).mpr hi, (inB_iff (by omega)).mpr hi, ih _ ⟨e2, fun b j hb => by rw [gI_sI_ne hb]; exact g b j hb, fun j hj => ?_⟩⟩
    rw [gI_sI_at]
    by_cases y : j = i
    · rw [if_pos y, y]
    · rw [if_neg y]; exact z j (by omega)
  · rintro h1 ⟨e2, g, z⟩
    refine b_X11_image_15 hL (e2T e2 eT) _ _ ⟨fun z => absurd z (nI_nlt (Nat.le_refl _) (by decide)), fun _ => ⟨fun _ => ?_, fun z => absurd rfl z⟩⟩
    exact K _ e2 (fun b j u v => by rw [gI_sI, if_neg (fun z => (v z.1).1 z.2), gI_sI, if_neg (fun z => (v z.1).2 z.2)]; exact g b j u) (fun j hj => by rw [gI_sI_ne (by decide), gI_sI_ne (by decide)]; exact z j hj) (by rw [gI_sI_at, if_pos rfl]) (by rw [gI_sI_at, if_neg (by decide), gI_sI_at, if_pos rfl])
theorem RM.tr4 {h' : Hp} (r : RM h n sl c q nm sg w) (hl : w.2.2.2.1.length ≤ 16) (g : ∀ j, j < 4180 → gI h' 60 j = gI h 60 j) : RM h' n sl c q nm sg w := by
  obtain ⟨r1, r2, r3, r4, r5, r6, r7, r8⟩ := r
  refine ⟨by rw [g _ (by omega)]; exact r1, by rw [g _ (by omega)]; exact r2, fun s hs => by rw [g _ (by omega)]; exact r3 s hs, fun s hs => by rw [g _ (by omega)]; exact r4 s hs, fun s hs => by rw [g _ (by omega)]; exact r5 s hs, fun k hk => ?_, r7.congr (fun j hj => g j (by unfold tch at hj; omega)), fun s hs => by rw [g _ (by omega)]; exact r8 s hs⟩
  obtain ⟨m1, m2, m3⟩ := r6 k hk
  refine ⟨m1, by rw [g _ (by omega)]; exact m2, fun i hi => ?_⟩
  rw [g _ (by omega), g _ (by omega), g _ (by omega), g _ (by omega)]
  exact m3 i hi
theorem Lay.sR17 {h : Hp} (l : Lay h.2.2) (v : Option Nat) : Lay (sR h 1 7 v).2.2 := by
  have ne : ∀ e ∈ refTab, ¬ (e.1 = 1 ∧ e.2.1 = 7) := by decide
  refine ⟨l.1, fun e he => ?_⟩
  show gR (sR h 1 7 v) e.1 e.2.1 = _
  rw [gR_sR, if_neg (ne e he)]
  exact l.2 e he
theorem Lay.nw {h h' : Hp} {s : List (Nat × Nat)} (l : Lay h.2.2) (hz : nxt h = 77) (nw : Nw (newO h 16 9) h' 77 s) : Lay h'.2.2 := by
  have lt : ∀ e ∈ refTab, e.1 < 77 := by decide
  refine ⟨fun a a0 a7 => ?_, fun e he => ?_⟩
  · show shp h' a = _
    rw [nw.sh (by rw [nx_new, hz]; omega), sh_new, hz, if_neg (by omega)]
    exact l.1 a a0 a7
  · show gR h' e.1 e.2.1 = _
    have := lt e he
    rw [nw.2.2.2 _ _ this, gR_new, hz, if_neg (by omega)]
    exact l.2 e he
theorem im_take (I : Inv L xs h) (v : VS n sl c q nm sg w) (rm : RM h n sl c q nm sg w) {h3 : Hp} (lay : Lay h3.2.2) (g : ∀ b j, b < 77 → gI h3 b j = gI h b j) (gj : ∀ b j, b < 77 → gJ h3 b j = gJ h b j) (r17 : gR h3 1 7 = some 77) (sz : nxt h3 ≤ 200 ∧ tot h3 ≤ L + 200000) (s0 : shp h3 0 = shp h 0) (x8 : IsX8 h3.2.2 77) (rc : RC h3 77 n sl c q nm sg w) : Call 39 MX11_image [.ref 59, .int (nI 1)] h3 (fun v' h2 => v' = some (.int (nI 1)) ∧ Inv L xs h2) := by
  obtain ⟨⟨hL, rt, rf, rl, ri, rs, rx⟩, co⟩ := I
  refine s_imgTake (d := 39) lay rfl (fun h4 e4 g4 k61' f4 => ⟨rfl, ?_⟩)
  have gg : ∀ b j, b < 77 → b ≠ 61 → (b = 59 → j ≠ 4) → gI h4 b j = gI h b j := fun b j u v w => (g4 b j v w).trans (g b j u)
  have e42 : h4.2.2 = h3.2.2 := by rw [e4]
  refine ⟨⟨by rw [e42]; exact lay, rt.tr (fun j => gg _ _ (by omega) (by omega) (by omega)) (fun j => gg _ _ (by omega) (by omega) (by omega)) (fun j => gg _ _ (by omega) (by omega) (by omega)) (gg _ _ (by omega) (by omega) (by omega)), ?_, fun j hj => ?_, Or.inr ⟨by rw [gR_e2 e4]; exact r17, f4, by rw [e42]; exact x8, n, sl, c, q, nm, sg, w, v, rc.tr (fun b j u v _ => g4 b j (by omega) (by omega)) (fun b j u v => gJ_e2 e4 b j), ?_⟩, Or.inr ⟨by rw [gR_e2 e4]; exact r17, by rw [nxt_e e42]; exact sz.1, by rw [tot_e e42]; exact sz.2⟩, ⟨by rw [shp_e e42, s0]; exact rx.1, fun j hj => by rw [gg _ _ (by omega) (by omega) (by omega)]; exact rx.2 j hj⟩⟩, co.tr (fun b j u => gg b j (by omega) (by omega) (by omega)) (fun b j u v => (gJ_e2 e4 b j).trans (gj b j (by omega))) (gg _ _ (by omega) (by omega) (by omega))⟩
  · unfold FL
    rw [gg _ _ (by omega) (by omega) (by omega), gg _ _ (by omega) (by omega) (by omega), gg _ _ (by omega) (by omega) (by omega), gg _ _ (by omega) (by omega) (by omega)]
    exact rf
  · rw [gg _ _ (by omega) (by omega) (by omega), gg _ _ (by omega) (by omega) (by omega)]
    exact rl j hj
  · refine rm.tr4 (by rw [v.2.2.2.2.2.2.1.1]; exact v.1.2) (fun j hj => ?_)
    rw [gI_k61, k61' j hj]
    exact g 60 j (by decide)
end OpImg
