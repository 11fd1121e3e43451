section ReadC
variable {d : Nat} {T : HT} {h h0 : Hp} {Q : Option Value → Hp → Prop} {tp : Nat → Nat} {n iE m i : Nat} {c : Mk} {s : List (Nat × Nat)}
def stepK (k : Nat) : Prop := k = 6 ∨ k = 9 ∨ k = 10 ∨ k = 11
theorem pS_stop {kk nn : Nat → Nat} : ∀ {f o i : Nat} {c : Mk} {q : Nat × Mk}, pS kk nn m f o i c = some (.inr q) → ¬ stepK (kk q.1)
  | 0, _, _, _, _, h => by unfold pS at h; cases h
  | f + 1, o, i, c, q, h => by
    unfold pS at h
    by_cases k1 : kk i = 6 ∨ kk i = 9
    · rw [if_pos k1] at h
      cases hr : rdMv kk nn m (if kk i = 6 then 0 else 1) i with
      | inl e => rw [hr] at h; cases h
      | inr x => rw [hr] at h; exact pS_stop h
    · rw [if_neg k1] at h
      by_cases k2 : kk i = 10
      · rw [if_pos k2] at h
        cases hr : rdTn kk nn i with
        | inl e => rw [hr] at h; cases h
        | inr x => rw [hr] at h; exact pS_stop h
      · rw [if_neg k2] at h
        by_cases k3 : kk i = 11
        · rw [if_pos k3] at h
          by_cases k4 : o = 4
          · rw [if_pos k4] at h; cases h
          · rw [if_neg k4] at h
            cases hr : rdNum kk nn (i + 1) 1 9 with
            | inl e => rw [hr] at h; cases h
            | inr r =>
              rw [hr] at h
              dsimp only at h
              by_cases k5 : kk (i + 2) = 4
              · rw [if_pos k5] at h
                cases hp : pS kk nn m f (o + 1) (i + 3) c with
                | none => rw [hp] at h; cases h
                | some z =>
                  rw [hp] at h
                  cases z with
                  | inl e => cases h
                  | inr y =>
                    dsimp only at h
                    by_cases k6 : kk y.1 = 5
                    · rw [if_pos k6] at h; exact pS_stop h
                    · rw [if_neg k6] at h; cases h
              · rw [if_neg k5] at h; cases h
        · rw [if_neg k3] at h
          have := Sum.inr.inj (Option.some.inj h)
          subst this
          unfold stepK
          show ¬ (kk i = 6 ∨ kk i = 9 ∨ kk i = 10 ∨ kk i = 11)
          omega
theorem rd_stop (hL : Lay T) (eT : h.2.2 = T) (x : Int32) (K : Q (some (.int (b2i false))) h) : L_X5_read_39 d (b2i false) x h Q := b_X5_read_39 hL eT _ _ ⟨fun _ => ⟨fun _ => K, fun z => absurd rfl z⟩, fun _ => K⟩
/-- a token that can't stand -/
theorem rd_bad (hL : Lay T) (e0 : h0.2.2 = T) (h4 : iE ≤ 400) (r : Rd tp n iE m h0 h i c s) (hi : i ≤ iE) {st : Nat} (hst : st ≤ i) (hsl : s.length ≤ 4) (hk : ¬ stepK (tK tp n i)) (h5 : tK tp n i = 5 → s.length = 0) (h00 : tK tp n i = 0 → s.length ≠ 0) (K : ∀ h', Fl tp n h0 h' 1 i → Q (some (.int (b2i false))) h') : L_X5_read_39 d (b2i true) (nI st) h Q := by
  obtain ⟨p1, r1, k1, n1⟩ := take_rd r hi h4
  have kl := tK_le (tp := tp) (n := n) i
  obtain ⟨p2, f2⟩ := fail_fl (k := 1) r1 hi h4
  unfold stepK at hk
  have bad : ∀ x, p_X5_fail (nI 1) (w_X5_take h) ∧ L_X5_read_39 d (b2i (r_X5_fail (nI 1) (w_X5_take h))) x (w_X5_fail (nI 1) (w_X5_take h)) Q := fun x => ⟨p2, rd_stop hL (f2.eT e0) x (K _ f2)⟩
  have no : ∀ v, v ≤ 11 → tK tp n i ≠ v → ∀ {P : Prop}, nI (tK tp n i) = nI v → P := fun v hv ne P e => absurd (nI_inj (by omega) (by omega) e) ne
  have s9 : gI (w_X5_take h) 2 9 = nI s.length := r1.2.2.2.2.1
  refine b_X5_read_39 hL (r.eT e0) _ _ ?_
  rw [r.2.2.1.1, k1]
  refine ⟨fun _ => ⟨fun z => absurd z (by decide), fun _ => ⟨p1, fun z => ?_, fun z => ⟨fun y => ?_, no 6 (by decide) (by omega), fun _ => bad _, fun _ => bad _, no 9 (by decide) (by omega), no 10 (by decide) (by omega), no 11 (by decide) (by omega), fun _ => bad _⟩⟩⟩, fun z => absurd (nI_lt (by omega) (by omega)) z⟩
  · have z : tK tp n i = 0 := (nI_eq0 (by omega)).mp z
    have s0 := h00 z
    have g0 : 0 < gI (w_X5_take h) 2 9 := by rw [s9]; exact (nI_gt0 (by omega)).mpr (by omega)
    refine ⟨⟨fun _ => ⟨p2, trivial⟩, fun q => absurd g0 q⟩, ?_⟩
    unfold r_X5_readEnd w_X5_readEnd
    rw [if_pos g0, if_pos g0]
    exact K _ f2
  · have y : tK tp n i = 5 := nI_inj (by omega) (by decide) y
    have s0 := h5 y
    refine b_X5_readClosing (d := d + 2) hL (r1.eT e0) ⟨fun _ => ⟨p2, _, rfl, f2.eT e0, rd_stop hL (f2.eT e0) _ (K _ f2)⟩, fun q => absurd (by rw [s9, s0]; rfl) q⟩
theorem s_readC (hL : Lay T) (e0 : h0.2.2 = T) (hb : ∀ i, i < n → tp i < 256) (hE : ∀ i, tK tp n i ≠ 0 → i < iE) (h4 : iE ≤ 400) (m1 : 0 < m) (m16 : m ≤ 16) : ∀ f o i c s h st res, s.length = o → o ≤ 4 → Rd tp n iE m h0 h i c s → MkV m c → i ≤ iE → st ≤ i → pS (tK tp n) (tN tp n) m f o i c = some res → (∀ e, res = .inl e → ∀ h', Fl tp n h0 h' e.1 e.2 → Q (some (.int (b2i false))) h') → (∀ q, res = .inr q → ∀ h' st', Rd tp n iE m h0 h' q.1 q.2 s → st' ≤ q.1 → L_X5_read_39 d (b2i true) (nI st') h' Q) → L_X5_read_39 d (b2i true) (nI st) h Q
  | 0, _, _, _, _, _, _, _, _, _, _, _, _, _, hp, _, _ => by unfold pS at hp; cases hp
  | f + 1, o, i, c, s, h, st, res, hs, ho, r, v, hi, hst, hp, Kf, Kr => by
    have ih := s_readC hL e0 hb hE h4 m1 m16 f
    have ok := pS_ok (nn := tN tp n) m1 hE f
    by_cases sk : stepK (tK tp n i)
    · have hlt : i < iE := hE i (by unfold stepK at sk; omega)
      obtain ⟨p1, r1, k1, n1⟩ := take_rd r hi h4
      have no : ∀ v, v ≤ 11 → tK tp n i ≠ v → ∀ {P : Prop}, nI (tK tp n i) = nI v → P := fun v hv ne P e => absurd (nI_inj (by have := tK_le (tp := tp) (n := n) i; omega) (by omega) e) ne
      have out : ∀ {P : Prop}, ((nI (tK tp n i)).toInt < 5 ∨ 11 < (nI (tK tp n i)).toInt) → P := fun {P} q => by
        have := tK_le (tp := tp) (n := n) i
        rw [nI_toInt (by omega)] at q
        unfold stepK at sk
        omega
      have nz : tK tp n i ≠ 0 := by unfold stepK at sk; omega
      have n0 : ¬ nI (tK tp n i) = 0 := fun e => nz ((nI_eq0 (by have := tK_le (tp := tp) (n := n) i; omega)).mp e)
      have go : ∀ (x : Mv × Nat) (h' : Hp), tK tp n (x.2 - 1) = 3 → i + 2 < x.2 → mvN m x.1 → Rd tp n iE m h0 h' x.2 (psh1 c x.1) s → pS (tK tp n) (tN tp n) m f o x.2 (psh1 c x.1) = some res → L_X5_read_39 d (b2i true) (nI st + nI 1) h' Q := fun x h' x1 x2 x3 rx hx => by
        rw [nI_add]
        have xe := hE (x.2 - 1) (by omega)
        exact ih o x.2 _ s h' (st + 1) res hs ho rx (psh1_v v x3) (by omega) (by omega) hx Kf Kr
      unfold pS at hp
      refine b_X5_read_39 hL (r.eT e0) _ _ ?_
      rw [r.2.2.1.1, k1]
      refine ⟨fun _ => ⟨fun z => absurd z (by decide), fun _ => ⟨p1, fun z => absurd z n0, fun _ => ?_⟩⟩, fun z => absurd (nI_lt (by omega) (by omega)) z⟩
      by_cases k6 : tK tp n i = 6
      · rw [if_pos (Or.inl k6), if_pos k6] at hp
        refine ⟨no 5 (by decide) (by omega), fun _ => ?_, no 7 (by decide) (by omega), no 8 (by decide) (by omega), no 9 (by decide) (by omega), no 10 (by decide) (by omega), no 11 (by decide) (by omega), out⟩
        refine s_readLift (d := d) hL e0 hb hE h4 m1 m16 r1 v.1 hlt (fun h' q hq rq => ⟨_, rfl, rq.eT e0, ?_⟩) (fun h' e he fl => ⟨_, rfl, fl.eT e0, rd_stop hL (fl.eT e0) _ ?_⟩)
        · rw [hq] at hp
          obtain ⟨x1, x2, x3⟩ := rdMv_ok m1 (by decide) hq
          exact go q h' x1 x2 x3 rq hp
        · rw [he] at hp
          exact Kf e (Option.some.inj hp).symm h' fl
      · by_cases k9 : tK tp n i = 9
        · rw [if_pos (Or.inr k9), if_neg k6] at hp
          refine ⟨no 5 (by decide) (by omega), no 6 (by decide) (by omega), no 7 (by decide) (by omega), no 8 (by decide) (by omega), fun _ => ?_, no 10 (by decide) (by omega), no 11 (by decide) (by omega), out⟩
          refine s_readSwap (d := d) hL e0 hb hE h4 m1 m16 r1 v.1 hlt (fun h' q hq rq => ⟨_, rfl, rq.eT e0, ?_⟩) (fun h' e he fl => ⟨_, rfl, fl.eT e0, rd_stop hL (fl.eT e0) _ ?_⟩)
          · rw [hq] at hp
            obtain ⟨x1, x2, x3⟩ := rdMv_ok m1 (by decide) hq
            exact go q h' x1 x2 x3 rq hp
          · rw [he] at hp
            exact Kf e (Option.some.inj hp).symm h' fl
        · rw [if_neg (by omega)] at hp
          by_cases k10 : tK tp n i = 10
          · rw [if_pos k10] at hp
            refine ⟨no 5 (by decide) (by omega), no 6 (by decide) (by omega), no 7 (by decide) (by omega), no 8 (by decide) (by omega), no 9 (by decide) (by omega), fun _ => ?_, no 11 (by decide) (by omega), out⟩
            refine s_readTurn (d := d + 1) hL e0 hb hE h4 r1 v.1 hlt (fun h' q hq rq => ⟨_, rfl, rq.eT e0, ?_⟩) (fun h' e he fl => ⟨_, rfl, fl.eT e0, rd_stop hL (fl.eT e0) _ ?_⟩)
            · rw [hq] at hp
              obtain ⟨x1, x2, x3⟩ := rdTn_ok (m := m) hq
              exact go q h' x1 x2 x3 rq hp
            · rw [he] at hp
              exact Kf e (Option.some.inj hp).symm h' fl
          · have k11 : tK tp n i = 11 := by unfold stepK at sk; omega
            rw [if_neg k10, if_pos k11] at hp
            refine ⟨no 5 (by decide) (by omega), no 6 (by decide) (by omega), no 7 (by decide) (by omega), no 8 (by decide) (by omega), no 9 (by decide) (by omega), no 10 (by decide) (by omega), fun _ => ?_, out⟩
            refine s_readTimes (d := d + 1) hL e0 hb hE h4 r1 v.1 hlt (by omega) (fun k h' fl => ⟨_, rfl, fl.eT e0, rd_stop hL (fl.eT e0) _ ?_⟩) (fun k h' e he fl => ⟨_, rfl, fl.eT e0, rd_stop hL (fl.eT e0) _ ?_⟩) (fun k h' a ha k4 fl => ⟨_, rfl, fl.eT e0, rd_stop hL (fl.eT e0) _ ?_⟩) (fun k h' a ha k4 rq => ⟨_, rfl, rq.eT e0, ?_⟩)
            · rw [if_pos (by omega)] at hp
              exact Kf (3, i) (Option.some.inj hp).symm h' fl
            · rw [if_neg (by omega), he] at hp
              exact Kf e (Option.some.inj hp).symm h' fl
            · rw [if_neg (by omega), ha] at hp
              dsimp only at hp
              rw [if_neg k4] at hp
              exact Kf (1, i + 2) (Option.some.inj hp).symm h' fl
            · rw [if_neg (by omega), ha] at hp
              dsimp only at hp
              rw [if_pos k4] at hp
              obtain ⟨_, _, a1, a9⟩ := rdNum_ok ha
              have ie2 := hE (i + 2) (by omega)
              rw [nI_add]
              cases hq : pS (tK tp n) (tN tp n) m f (o + 1) (i + 3) c with
              | none => rw [hq] at hp; cases hp
              | some y =>
                rw [hq] at hp
                refine ih (o + 1) (i + 3) c ((a, c.1) :: s) h' (st + 1) y (by rw [List.length_cons]; omega) (by omega) rq v (by omega) (by omega) hq (fun e ee h2 fl => ?_) (fun q eq h2 st2 r2 hst2 => ?_)
                · rw [ee] at hp
                  exact Kf e (Option.some.inj hp).symm h2 fl
                · rw [eq] at hp hq
                  dsimp only at hp
                  obtain ⟨b1, b2, b3, b4, b5⟩ := ok (o + 1) (i + 3) c q (by omega) (by omega) v hq
                  have stp := pS_stop hq
                  by_cases k5 : tK tp n q.1 = 5
                  · rw [if_pos k5] at hp
                    have qe := hE q.1 (by omega)
                    obtain ⟨p3, r3, k3, n3⟩ := take_rd r2 b2 h4
                    refine b_X5_read_39 hL (r2.eT e0) _ _ ?_
                    rw [r2.2.2.1.1, k3, k5]
                    refine ⟨fun _ => ⟨fun z => absurd z (by decide), fun _ => ⟨p3, fun z => absurd z (by decide), fun _ => ⟨fun _ => ?_, fun z => absurd z (by decide), fun z => absurd z (by decide), fun z => absurd z (by decide), fun z => absurd z (by decide), fun z => absurd z (by decide), fun z => absurd z (by decide), fun z => absurd z (by decide)⟩⟩⟩, fun z => absurd (nI_lt (by omega) (by omega)) z⟩
                    refine s_readClosing (d := d + 2) hL e0 h4 r3 b3.1 (by omega) b4 a1 a9 (fun h5 r5 => ⟨_, rfl, r5.eT e0, ?_⟩)
                    rw [nI_add]
                    exact ih o (q.1 + 1) _ s h5 (st2 + 1) res hs ho r5 (cls1_v b3 b4) (by omega) (by omega) hp Kf Kr
                  · rw [if_neg k5] at hp
                    exact rd_bad hL e0 h4 r2 b2 hst2 (by rw [List.length_cons]; omega) stp (fun e => absurd e k5) (fun _ => by rw [List.length_cons]; omega) (fun h5 fl => Kf (1, q.1) (Option.some.inj hp).symm h5 fl)
    · unfold pS at hp
      unfold stepK at sk
      rw [if_neg (by omega), if_neg (by omega), if_neg (by omega)] at hp
      exact Kr (i, c) (Option.some.inj hp).symm h st r hst
/-- the whole of a text; the answer: a fault, or the moves -/
def txA (tp : Nat → Nat) (n m : Nat) (res : Rs (Nat × Mk)) : Rs Mk := match res with
  | .inl e => .inl e
  | .inr q => if tK tp n q.1 = 0 then (if 200 < q.2.1 then .inl (4, q.1) else .inr q.2) else .inl (1, q.1)
theorem s_readAll (hL : Lay T) (eT : h.2.2 = T) (t : TC h tp n) (h8 : tS tp n iE = n) (hlt : ∀ j, j < iE → tS tp n j < n) (hm : 4 ≤ m) (m16 : m ≤ 16) {f : Nat} {res : Rs (Nat × Mk)} (hp : pS (tK tp n) (tN tp n) m f 0 0 (0, []) = some res)
    (Kf : ∀ h' e, txA tp n m res = .inl e → Fl tp n h h' e.1 e.2 → Q (some (.int (b2i false))) h')
    (Kt : ∀ h' c, txA tp n m res = .inr c → Fb h h' → gI h' 2 0 = gI h 2 0 → gI h' 2 1 = gI h 2 1 → MkV m c → c.1 ≤ 200 → DR h' c → Q (some (.int (b2i true))) h') : Call (d + 5) MX5_read [.ref 2, .int (nI m)] h Q := by
  have hb := t.2.2.1
  have n400 := t.1
  have hE : ∀ i, tK tp n i ≠ 0 → i < iE := fun i hi => by
    rcases Nat.lt_or_ge i iE with w | w
    · exact w
    · have := tS_end h8 (i - iE)
      rw [show iE + (i - iE) = i by omega] at this
      exact absurd (tK_0.mpr this) hi
  refine b_X5_read hL eT _ ?_
  refine s_findTokens (d := d + 1) hL eT t (fun h1 j t1 g1 s1 l1 jn c1 a1 => ⟨rfl, e2T t1 eT, ?_⟩)
  have ej : j = iE := by
    rcases Nat.lt_trichotomy j iE with w | w | w
    · have := hlt j w; omega
    · exact w
    · have := l1 iE w; omega
  subst ej
  have rd : Rd tp n j m h (sI (sI (sI (sI (sI h1 2 4 (nI m)) 2 5 (-1)) 8 0 (nI 0)) 2 8 (nI 0)) 2 9 (nI 0)) 0 (0, []) [] := by
    have g : ∀ b x, b ≠ 2 → b ≠ 8 → gI (sI (sI (sI (sI (sI h1 2 4 (nI m)) 2 5 (-1)) 8 0 (nI 0)) 2 8 (nI 0)) 2 9 (nI 0)) b x = gI h1 b x := fun b x u w => by rw [gI_sI_ne u, gI_sI_ne u, gI_sI_ne w, gI_sI_ne u, gI_sI_ne u]
    refine ⟨⟨t1, fun b x u => by rw [g b x (by omega) (by omega)]; exact g1 b x (by omega) (by omega) (by omega) (by omega)⟩, rfl, ⟨by rw [g _ _ (by decide) (by decide)]; exact c1, fun x hx => by rw [g _ _ (by decide) (by decide), g _ _ (by decide) (by decide), g _ _ (by decide) (by decide)]; exact a1 x hx⟩, ⟨rfl, g1 2 0 (by decide) (by decide) (by decide) (by decide), g1 2 1 (by decide) (by decide) (by decide) (by decide)⟩, rfl, trivial, rfl, fun x hx => absurd hx (Nat.not_lt_zero x), rfl⟩
  refine s_readC (iE := j) hL eT hb hE (by omega) (by omega) m16 f 0 0 (0, []) [] _ 0 res rfl (by decide) rd ⟨rfl, fun x hx => (List.not_mem_nil hx).elim⟩ (Nat.zero_le _) (Nat.le_refl _) hp (fun e ee h' fl => Kf h' e (by rw [ee]; rfl) fl) (fun q eq h' st' r hst => ?_)
  obtain ⟨b1, b2, b3, b4, b5⟩ := pS_ok (nn := tN tp n) (show 0 < m by omega) hE f 0 0 (0, []) q (by decide) (Nat.zero_le _) ⟨rfl, fun x hx => (List.not_mem_nil hx).elim⟩ (by rw [hp, eq])
  have stp := pS_stop (hp.trans (by rw [eq]))
  have ex : txA tp n m res = if tK tp n q.1 = 0 then (if 200 < q.2.1 then .inl (4, q.1) else .inr q.2) else .inl (1, q.1) := by rw [eq]; rfl
  by_cases k0 : tK tp n q.1 = 0
  · rw [if_pos k0] at ex
    obtain ⟨p3, r3, k3, n3⟩ := take_rd r b2 (by omega)
    obtain ⟨p4, f4⟩ := fail_fl (k := 4) r3 b2 (by omega)
    obtain ⟨c1', c2, c3, c4, c5, c6, c7⟩ := id r3
    have s9 : ¬ 0 < gI (w_X5_take h') 2 9 := by rw [c5]; decide
    refine b_X5_read_39 hL (r.eT eT) _ _ ?_
    rw [r.2.2.1.1, k3, k0]
    refine ⟨fun _ => ⟨fun z => absurd z (by decide), fun _ => ⟨p3, fun _ => ?_, fun z => absurd rfl z⟩⟩, fun z => absurd (nI_lt (by omega) (by omega)) z⟩
    refine ⟨⟨fun z => absurd z s9, fun _ => ⟨fun _ => trivial, fun _ => ⟨p4, fun _ => trivial, fun _ => trivial⟩⟩⟩, ?_⟩
    unfold r_X5_readEnd w_X5_readEnd
    rw [if_neg s9, if_neg s9]
    have d8 := c7.2.2
    by_cases big : 200 < q.2.1
    · rw [if_pos big] at ex d8
      have ne : ¬ gI (w_X5_take h') 2 8 = 0 := by rw [d8]; decide
      rw [if_neg ne, if_neg ne, if_neg (show ¬ r_X5_fail (nI 4) (w_X5_take h') = true from fun w => Bool.noConfusion (show false = true from w)), if_neg (show ¬ r_X5_fail (nI 4) (w_X5_take h') = true from fun w => Bool.noConfusion (show false = true from w))]
      exact Kf _ (4, q.1) ex f4
    · rw [if_neg big] at ex d8
      have ne : gI (w_X5_take h') 2 8 = 0 := by rw [d8]; rfl
      rw [if_pos ne, if_pos ne]
      exact Kt _ q.2 ex c1' c4.2.1 c4.2.2 b3 (by omega) c7
  · rw [if_neg k0] at ex
    exact rd_bad hL eT (by omega) r b2 hst (by decide) stp (fun _ => rfl) (fun e => absurd e k0) (fun h5 fl => Kf h5 (1, q.1) ex fl)
end ReadC
