-- the model's true singing, whole
def MR (h : Hp) (l : List Nat) : Prop := ∀ s, s < l.length → gI h 60 (42 + s) = nI (l.getD s 0)
def frN (h h' : Hp) : Prop := ∀ x j, x ≠ 65 → x ≠ 66 → (x = 60 → ¬ (tch j ∨ (42 ≤ j ∧ j < 58))) → gI h' x j = gI h x j
theorem CdM.congr {h h' : Hp} {w : Cd} (m : CdM h w) (e : ∀ j, tch j → gI h' 60 j = gI h 60 j) : CdM h' w := by
  obtain ⟨m1, m2, m3, m4, m5, m6, m7⟩ := m
  unfold tch at e
  refine ⟨by rw [e _ (by omega)]; exact m1, by rw [e _ (by omega)]; exact m2, fun s hs => by rw [e _ (by omega)]; exact m3 s hs, fun j hj => by rw [e _ (by omega)]; exact m4 j hj, m5, by rw [e _ (by omega)]; exact m6, fun i hi => ?_⟩
  rw [e _ (by omega), e _ (by omega)]
  exact m7 i hi
section MTruly2
variable {d : Nat} {T : HT} {h : Hp} {Q : Option Value → Hp → Prop}
theorem s_true135 (hL : Lay T) (eT : h.2.2 = T) {n : Nat} (hn : gI h 60 0 = nI n) (h16 : n ≤ 16) {l : List Nat} (hl : l.length = n) (hs : MS h l) (x : Int32)
    (K : ∀ h' : Hp, h'.2 = h.2 → (∀ b j, (b = 60 → ¬ (42 ≤ j ∧ j < 42 + n)) → gI h' b j = gI h b j) → MR h' l → Q (some (.int x)) h') : L_X11_singsTruly_135 d x (nI 0) h Q := by
  refine upto n (fun i h1 => h1.2 = h.2 ∧ (∀ b j, (b = 60 → ¬ (42 ≤ j ∧ j < 42 + n)) → gI h1 b j = gI h b j) ∧ ∀ s, s < i → gI h1 60 (42 + s) = nI (l.getD s 0)) (fun i h1 => L_X11_singsTruly_135 d x (nI i) h1 Q) ?_ ?_ 0 h (Nat.zero_le _) ⟨rfl, fun _ _ _ => rfl, fun s hs => by omega⟩
  · rintro i h1 hi ⟨e2, g, hj⟩ ih
    have e0 : gI h1 60 0 = nI n := by rw [g _ _ (by omega)]; exact hn
    have e65 : gI h1 65 i = nI (l.getD i 0) := by rw [g _ _ (by omega)]; exact hs i (by omega)
    refine b_X11_singsTruly_135 hL (e2T e2 eT) _ _ ?_
    rw [e0, nI_add, nI_add, nI_clamp (by omega), nI_clamp (by omega), e65]
    refine ⟨fun _ => ⟨(inB_iff (by omega)).mpr (by omega), (inB_iff (by omega)).mpr (by omega), ih _ ⟨e2, fun b j hbj => ?_, fun s hs' => ?_⟩⟩, fun c => absurd (nI_lt hi (by omega)) c⟩
    · rw [gI_sI]
      rw [if_neg (fun z => hbj z.1 (by omega))]
      exact g b j hbj
    · rw [gI_sI_at]
      by_cases q : s = i
      · rw [if_pos (by omega), q]
      · rw [if_neg (by omega)]; exact hj s (by omega)
  · rintro h1 ⟨e2, g, hj⟩
    have e0 : gI h1 60 0 = nI n := by rw [g _ _ (by omega)]; exact hn
    refine b_X11_singsTruly_135 hL (e2T e2 eT) _ _ ?_
    rw [e0]
    exact ⟨fun c => absurd c (nI_nlt (Nat.le_refl _) (by omega)), fun _ => K h1 e2 g (fun s hs' => hj s (by omega))⟩
theorem draw_eq (h : Hp) : p_X11_draw (nI 1000) h ∧ r_X11_draw (nI 1000) h = slp (drw (gI h 60 2)) ∧ w_X11_draw (nI 1000) h = sI h 60 2 (drw (gI h 60 2)) := by
  unfold p_X11_draw r_X11_draw w_X11_draw slp
  rw [drw_eq, gI_sI_at, if_pos rfl]
  exact ⟨⟨fun z => by have := (nI_eq0 (by decide)).mp z; omega, trivial⟩, rfl, rfl⟩
theorem s_singsTruly (hL : Lay T) (eT : h.2.2 = T) {n : Nat} {c : List Nat} {sg : Nat → List Mv} (hb : MB h n c sg) {sl : Nat} (hsl : gI h 60 1 = nI sl) (h1000 : sl ≤ 1000) {w : Cd} (hp : pm n w.2.2.2.1) (hr : MR h w.2.2.2.1) (hM : CdM h w) {k : Nat} (hk : k < 4)
    (K : ∀ h' : Hp, h'.2 = h.2 → frN h h' → CdM h' (trS sl c w (sg k)).1 → MR h' (trS sl c w (sg k)).1.2.2.2.1 → Q (some (.int (nI (trS sl c w (sg k)).2))) h') : Call (d + 3) MX11_singsTruly [.ref 59, .int (nI k)] h Q := by
  obtain ⟨c1, ⟨c2, c3⟩, ⟨c4, c5, c6⟩, c7⟩ := id hb
  obtain ⟨hG, hN⟩ := c7 k hk
  have h200 := hG.1
  have hl := hp.1
  refine b_X11_singsTruly hL eT _ (s_sitsNow (d := d + 2) hL eT c1 c3 (fun h0 e20 g0 => ⟨rfl, e2T e20 eT, ?_⟩))
  refine upto (sg k).length (fun i h1 => h1.2 = h.2 ∧ frM h h1 ∧ CdM h1 (trS sl c w ((sg k).take i)).1 ∧ MS h1 (trS sl c w ((sg k).take i)).1.2.2.2.1) (fun i h1 => L_X11_singsTruly_8 d (nI k) (nI (trS sl c w ((sg k).take i)).2) (nI i) h1 Q) ?_ ?_ 0 h0 (Nat.zero_le _) ⟨e20, fun x j u _ _ => ?_, hM.congr (fun j _ => ?_), fun s hs => ?_⟩
  · rintro i h1 hi ⟨e2, g, m, s⟩ ih
    have hb1 : MB h1 n c sg := hb.tr (fun j q => g _ _ (by decide) (by decide) (fun _ => by unfold tch; omega))
    have hsl1 : gI h1 60 1 = nI sl := by rw [g _ _ (by decide) (by decide) (fun _ => by unfold tch; omega)]; exact hsl
    have eg1 : gI h1 60 (975 + k) = nI (sg k).length := ((hb1.2.2.2 k hk).1).2.1
    have hpi := pm_trS (sl := sl) (c := c) hp (by omega) hN i (by omega)
    have hm := hN _ (gM_mem hi)
    obtain ⟨p1, p2⟩ := ofMove_eq (f := 0) hk (show i < 200 by omega) (by decide) h1
    have f0 := ((hb1.2.2.2 k hk).1.2.2 i hi).1
    rw [Nat.add_zero] at p2
    obtain ⟨d1, d2, d3⟩ := draw_eq h1
    have hcn := trS_cnt sl c w (sg k) i (by omega)
    rw [trS_succ hi] at ih
    generalize trS sl c w ((sg k).take i) = p at *
    refine b_X11_singsTruly_8 hL (e2T e2 eT) _ _ _ ?_
    rw [p2, f0, d2, d3, nI_add, nI_clamp (by omega), eg1, hsl1, gI_sI_at, if_neg (by decide), hsl1, m.1, nI_add]
    refine ⟨(inB_iff (by omega)).mpr (by omega), fun _ => ⟨p1, fun q => ?_, fun q => ⟨fun z => ?_, fun z => ?_⟩⟩, fun q => absurd (nI_lt hi (by omega)) q⟩
    · have q : (gM (sg k) i).1 = 2 := nI_inj (by have := hm.1; omega) (by omega) q
      have et : tr1 sl c p (gM (sg k) i) = ((tm1 c p.1 (gM (sg k) i)).1, p.2 + (tm1 c p.1 (gM (sg k) i)).2) := by
        unfold tr1; rw [if_neg (fun z => z.1 q)]
      rw [et] at ih
      exact s_true73 hL (e2T e2 eT) hb1 hpi s m hk hi (fun h2 e3 g3 m3 s3 => ih h2 ⟨e3.trans e2, g.trans g3, m3, s3⟩)
    · have q : (gM (sg k) i).1 ≠ 2 := fun v => q (by rw [v])
      have z : 0 < sl := (nI_gt0 (by omega)).mp z
      have m' : CdM (sI h1 60 2 (drw p.1.1)) (drw p.1.1, p.1.2) := by
        obtain ⟨m1, m2, m3, m4, m5, m6, m7⟩ := m
        refine ⟨by rw [gI_sI_at, if_pos rfl], by rw [gI_sI_at, if_neg (by omega)]; exact m2, fun s hs => by rw [gI_sI_at, if_neg (by omega)]; exact m3 s hs, fun j hj => by rw [gI_sI_at, if_neg (by omega)]; exact m4 j hj, m5, by rw [gI_sI_at, if_neg (by omega)]; exact m6, fun i hi => ?_⟩
        rw [gI_sI_at, if_neg (by omega), gI_sI_at, if_neg (by omega)]
        exact m7 i hi
      have s' : MS (sI h1 60 2 (drw p.1.1)) p.1.2.2.2.1 := fun t ht => by rw [gI_sI_ne (by decide)]; exact s t ht
      have g' : frM h1 (sI h1 60 2 (drw p.1.1)) := fun x j u v f => by
        rw [gI_sI, if_neg (fun y => f y.1 (Or.inl y.2))]
      refine ⟨d1, fun v => ?_, fun v => ?_⟩
      · have et : tr1 sl c p (gM (sg k) i) = ((drw p.1.1, p.1.2), p.2) := by
          unfold tr1; rw [if_pos ⟨q, z⟩, if_pos v]
        rw [et] at ih
        exact ih _ ⟨e2, g.trans g', m', s'⟩
      · have et : tr1 sl c p (gM (sg k) i) = ((tm1 c (drw p.1.1, p.1.2) (gM (sg k) i)).1, p.2 + (tm1 c (drw p.1.1, p.1.2) (gM (sg k) i)).2) := by
          unfold tr1; rw [if_pos ⟨q, z⟩, if_neg v]
        rw [et] at ih
        have hb2 : MB (sI h1 60 2 (drw p.1.1)) n c sg := hb1.tr (fun j q => by rw [gI_sI_at, if_neg (by omega)])
        exact s_true73 (h := sI h1 60 2 (drw p.1.1)) (w := (drw p.1.1, p.1.2)) hL (e2T e2 eT) hb2 hpi s' m' hk hi (fun h2 e3 g3 m3 s3 => ih h2 ⟨e3.trans e2, (g.trans g').trans g3, m3, s3⟩)
    · have z : ¬ 0 < sl := fun v => z ((nI_gt0 (by omega)).mpr v)
      have et : tr1 sl c p (gM (sg k) i) = ((tm1 c p.1 (gM (sg k) i)).1, p.2 + (tm1 c p.1 (gM (sg k) i)).2) := by
        unfold tr1; rw [if_neg (fun v => z v.2)]
      rw [et] at ih
      exact s_true73 hL (e2T e2 eT) hb1 hpi s m hk hi (fun h2 e3 g3 m3 s3 => ih h2 ⟨e3.trans e2, g.trans g3, m3, s3⟩)
  · rintro h1 ⟨e2, g, m, s⟩
    have hb1 : MB h1 n c sg := hb.tr (fun j q => g _ _ (by decide) (by decide) (fun _ => by unfold tch; omega))
    have hpi := pm_trS (sl := sl) (c := c) hp (by omega) hN (sg k).length (Nat.le_refl _)
    rw [List.take_length] at m s hpi ⊢
    refine b_X11_singsTruly_8 hL (e2T e2 eT) _ _ _ ?_
    rw [nI_add, nI_clamp (by omega), ((hb1.2.2.2 k hk).1).2.1]
    refine ⟨(inB_iff (by omega)).mpr (by omega), fun q => absurd q (nI_nlt (Nat.le_refl _) (by omega)), fun _ => ?_⟩
    refine s_true135 hL (e2T e2 eT) hb1.1 c3 hpi.1 s _ (fun h2 e3 g3 r3 => K h2 (e3.trans e2) (fun x j u v f => ?_) (m.congr (fun j t => ?_)) r3)
    · rw [g3 x j (fun y z => f y (Or.inr (by omega))), g x j u v (fun y z => f y (Or.inl z))]
    · unfold tch at t
      exact g3 _ _ (fun _ => by omega)
  · rw [g0, if_neg (by omega)]
  · rw [g0, if_neg (by omega)]
  · have := hr s hs
    have hs2 : s < n := by rw [← hl]; exact hs
    rw [g0, if_pos ⟨rfl, hs2⟩]
    exact this
end MTruly2
