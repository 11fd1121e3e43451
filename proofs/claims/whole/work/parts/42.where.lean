-- calls that change rows of scratch alone
def Scr (h h' : Hp) : Prop := h'.2.2 = h.2.2 ∧ (∀ b j, b ≠ 19 → ¬ (49 < b ∧ b < 59) → ¬ (64 < b ∧ b < 77) → (b = 59 → j ≠ 23) → gI h' b j = gI h b j) ∧ ∀ b j, ¬ (49 < b ∧ b < 59) → gJ h' b j = gJ h b j
theorem Scr.rfl' (h : Hp) : Scr h h := ⟨rfl, fun _ _ _ _ _ _ => rfl, fun _ _ _ => rfl⟩
theorem Scr.trans {h h1 h2 : Hp} (a : Scr h h1) (b : Scr h1 h2) : Scr h h2 := ⟨b.1.trans a.1, fun x j p q r s => (b.2.1 x j p q r s).trans (a.2.1 x j p q r s), fun x j p => (b.2.2 x j p).trans (a.2.2 x j p)⟩
theorem Scr.of {h h' : Hp} (e : h'.2 = h.2) (g : ∀ b j, b ≠ 65 → b ≠ 66 → gI h' b j = gI h b j) : Scr h h' := ⟨by rw [e], fun b j _ _ p _ => g b j (by omega) (by omega), fun b j _ => gJ_e2 e b j⟩
/-- the row behind some singings -/
def itS (c : List Nat) (dr : Nat) (s : List Mv) (l : List Nat) : Nat → List Nat
  | 0 => l
  | r + 1 => singD c dr (itS c dr s l r) s
theorem itS_pm {n dr : Nat} {c l : List Nat} {s : List Mv} (hp : pm n l) (h0 : 0 < n) (hN : sgN n s) : ∀ r, pm n (itS c dr s l r)
  | 0 => hp
  | r + 1 => pm_sing h0 (itS_pm hp h0 hN r) hN
theorem itS_ok {n dr : Nat} {c l : List Nat} {s : List Mv} (hl : l.length = n) (hs : sm l) (hN : sgN n s) : ∀ r, (itS c dr s l r).length = n ∧ sm (itS c dr s l r)
  | 0 => ⟨hl, hs⟩
  | r + 1 => by
    obtain ⟨a, b⟩ := itS_ok hl hs hN r
    obtain ⟨p, q⟩ := sing_ok (c := c) (dr := dr) b (by rw [a]; exact hN)
    exact ⟨q.trans a, p⟩
section Where
variable {T : HT} {h : Hp} {G : Hp → Prop} {n sl : Nat} {c q : List Nat} {nm : Nat → Int32} {sg : Nat → List Mv} {w : Cd}
theorem RM.mb (v : VS n sl c q nm sg w) (rm : RM h n sl c q nm sg w) : MB h n c sg := ⟨rm.1, v.1, ⟨rm.2.2.1, VL_sm v.2.2.1, by have := v.2.2.1.1; omega⟩, fun k hk => ⟨rm.2.2.2.2.2.1 k hk, v.2.2.2.2.2.1 k hk⟩⟩
theorem s_sitsW {d : Nat} {Q : Option Value → Hp → Prop} (hL : Lay T) (eT : h.2.2 = T) (h16 : n ≤ 16) (hn : gI h 60 0 = nI n) {l : List Nat} (hl : l.length = n) (hr : MR h l) (K : ∀ h' : Hp, h'.2 = h.2 → (∀ b j, b ≠ 65 → b ≠ 66 → gI h' b j = gI h b j) → MS h' l → Q none h') : Call (d + 0) MX11_sitsNow [.ref 59] h Q :=
  s_sitsNow hL eT hn h16 (fun h' e2 g => K h' e2 (fun b j u _ => by rw [g, if_neg (fun z => u z.1)]) (fun s hs => by rw [g, if_pos ⟨rfl, by omega⟩]; exact hr s hs))
theorem s_whereM {d : Nat} {Q : Option Value → Hp → Prop} (hL : Lay T) (eT : h.2.2 = T) (hb : MB h n c sg) {l : List Nat} (hp : pm n l) (hr : MR h l) {k x r mi : Nat} (hk : k < 4) (hx : x < n) (hr99 : r ≤ 99) (hmi : mi < 2) {i : Nat} (hi : i < n) (ex : (itS c 16 (mrs n mi (sg k)) l r).getD i 0 = x)
    (K : ∀ h' : Hp, h'.2 = h.2 → (∀ b j, b ≠ 65 → b ≠ 66 → gI h' b j = gI h b j) → Q (some (.int (nI i))) h') : Call (d + 4) MX11_where [.ref 59, .int (nI k), .int (nI x), .int (nI r), .int (nI mi)] h Q := by
  obtain ⟨c1, ⟨c2, c3⟩, ⟨c4, c5, c6⟩, c7⟩ := id hb
  have hN := mrs_ok (mi := mi) (c7 k hk).2 (show 0 < n by omega) c3
  refine b_X11_where hL eT _ _ _ _ ⟨fun _ => ⟨fun _ => ⟨fun _ => ?_, fun z => absurd ((isIn_iff (by decide)).mpr ⟨r, hr99, rfl⟩) z⟩, fun z => absurd ((isSlotM_iff c1 (by omega) c3).mpr ⟨x, hx, rfl⟩) z⟩, fun z => absurd (isSongM_iff.mpr ⟨k, hk, rfl⟩) z⟩
  refine s_sitsW (d := d + 3) hL eT c3 c1 hp.1 hr (fun h0 e0 g0 s0 => ⟨rfl, e2T e0 eT, ?_⟩)
  refine upto r (fun t h1 => h1.2 = h.2 ∧ (∀ b j, b ≠ 65 → b ≠ 66 → gI h1 b j = gI h b j) ∧ MS h1 (itS c 16 (mrs n mi (sg k)) l t)) (fun t h1 => L_X11_where_34 d (nI k) (nI x) (nI r) (nI mi) (nI t) h1 Q) ?_ ?_ 0 h0 (Nat.zero_le _) ⟨e0, g0, s0⟩
  · rintro t h1 ht ⟨e2, g, s⟩ ih
    refine b_X11_where_34 hL (e2T e2 eT) _ _ _ _ _ ⟨fun _ => ?_, fun z => absurd (nI_lt ht (by omega)) z⟩
    refine s_sings (d := d) hL (e2T e2 eT) (hb.tr (fun j _ => g _ _ (by decide) (by decide))) (itS_pm hp (by omega) hN t) s hk hmi m1_dr (fun h2 e3 g3 s3 => ⟨rfl, e2T (e3.trans e2) eT, ?_⟩)
    rw [nI_add]
    exact ih h2 ⟨e3.trans e2, fun b j u v => by rw [g3 b j u v, g b j u v], s3⟩
  · rintro h1 ⟨e2, g, s⟩
    refine b_X11_where_34 hL (e2T e2 eT) _ _ _ _ _ ⟨fun z => absurd z (nI_nlt (Nat.le_refl _) (by omega)), fun _ => ?_⟩
    have hp2 := itS_pm (c := c) (dr := 16) hp (by omega) hN r
    generalize itS c 16 (mrs n mi (sg k)) l r = l2 at *
    have hl := hp2.1
    have hsm := pm_sm hp2 c3
    refine upto i (fun _ h2 => h2 = h1) (fun t h2 => L_X11_where_57 d (nI x) (nI t) h2 Q) ?_ ?_ 0 h1 (Nat.zero_le _) rfl
    · rintro t h2 ht rfl ih
      refine b_X11_where_57 hL (e2T e2 eT) _ _ ?_
      have := sm_getD hsm t
      rw [nI_clamp (by omega), s t (by omega), nI_add]
      refine ⟨(inB_iff (by omega)).mpr (by omega), fun z => ?_, fun _ => ih _ rfl⟩
      have z := nI_inj (by omega) (by omega) z
      have := hp2.2.1 t i (by omega) (by omega) (z.trans ex.symm)
      omega
    · rintro h2 rfl
      refine b_X11_where_57 hL (e2T e2 eT) _ _ ?_
      rw [nI_clamp (by omega), s i (by omega), ex]
      exact ⟨(inB_iff (by omega)).mpr (by omega), fun _ => K h2 e2 g, fun z => absurd rfl z⟩
theorem s_whereC {d : Nat} {Q : Option Value → Hp → Prop} (hL : Lay T) (eT : h.2.2 = T) (h0 : 0 < n) (h16 : n ≤ 16) (hn : gI h 12 0 = nI n) (hc : sm c) (hc16 : c.length ≤ 16) (hd : gJ h 12 2 = lN (enc c)) {l : List Nat} (hp : pm n l) (hr : gJ h 15 0 = lN (enc l)) {k x r mi : Nat} (hk : k < 4) {s : List Mv} (hG : SG h (20 + 2 * k) s) (hN : sgN n s) (hx : x < n) (hr99 : r ≤ 99) (hmi : mi < 2) {i : Nat} (hi : i < n) (ex : (itS c 16 (mrs n mi s) l r).getD i 0 = x)
    (K : Q (some (.int (nI i))) h) : Call (d + 4) MX10_where [.ref 1, .int (nI k), .int (nI x), .int (nI r), .int (nI mi)] h Q := by
  have hI7 := isX7_song hL hk
  have hN' := mrs_ok (mi := mi) hN h0 h16
  refine b_X10_where hL eT _ _ _ _ ⟨fun _ => ⟨fun _ => ⟨fun z => absurd z (nI_pos (by omega)), fun _ => ⟨fun z => absurd z (nI_nlt hr99 (by decide)), fun _ => ⟨k, rfl, hk, ?_⟩⟩⟩, fun z => absurd ((isSlotC_iff hn h16).mpr ⟨x, hx, rfl⟩) z⟩, fun z => absurd (isSongC_iff.mpr ⟨k, hk, rfl⟩) z⟩
  rw [hr]
  refine upto r (fun _ h1 => h1 = h) (fun t h1 => L_X10_where_53 d (nI x) (nI r) (nI mi) (20 + 2 * k) (lN (enc (itS c 16 (mrs n mi s) l t))) (nI t) h1 Q) ?_ ?_ 0 h (Nat.zero_le _) rfl
  · rintro t h1 ht rfl ih
    have hpt := itS_pm (c := c) (dr := 16) hp h0 hN' t
    have e : itS c 16 (mrs n mi s) l (t + 1) = singD c 16 (itS c 16 (mrs n mi s) l t) (mrs n mi s) := rfl
    rw [e] at ih
    generalize itS c 16 (mrs n mi s) l t = l1 at *
    refine b_X10_where_53 hL eT _ _ _ _ _ _ hI7 ?_
    rw [hd, hn, nI_add]
    refine ⟨fun _ => ⟨fun z => ?_, fun z => ?_⟩, fun z => absurd (nI_lt ht (by omega)) z⟩
    · have z : mi = 0 := (nI_eq0 (by omega)).mp z
      have e2 : mrs n mi s = s := by unfold mrs; rw [if_neg (by omega)]
      rw [e2] at ih
      exact s_sungFrom (d := d) hL eT hI7 h0 h16 hpt.1 (pm_sm hpt h16) hc hc16 hG hN m1_dr ⟨_, rfl, eT, ih _ rfl⟩
    · have z : mi = 1 := by
        have : ¬ mi = 0 := fun y => z (by rw [y]; rfl)
        omega
      rw [z] at ih
      rw [z]
      exact s_mirroredFrom (d := d) hL eT hI7 h0 h16 hpt.1 (pm_sm hpt h16) hc hc16 hG hN ⟨_, rfl, eT, ih _ rfl⟩
  · rintro h1 rfl
    refine b_X10_where_53 hL eT _ _ _ _ _ _ hI7 ⟨fun z => absurd z (nI_nlt (Nat.le_refl _) (by omega)), fun _ => ?_⟩
    rw [hn]
    exact s_slotWith (d := d + 2) hL eT (itS_pm hp h0 hN' r) h16 hi ex ⟨_, rfl, eT, K⟩
theorem op_where (hL : Lay h.2.2) (v : VS n sl c q nm sg w) (rc : RC h 12 n sl c q nm sg w) (rm : RM h n sl c q nm sg w) (x1 x2 x3 : Int32) {mi : Nat} (hmi : mi < 2) (g : ∀ h', Scr h h' → G h') : Op MX10_where MX11_where [.int x1, .int x2, .int x3, .int (nI mi)] h G := by
  have hb := RM.mb v rm
  obtain ⟨⟨v1, v2⟩, v3, v4, v5, v6, v7, v8⟩ := v
  have gh := g h (Scr.rfl' h)
  by_cases z1 : ∃ v, v < 4 ∧ x1 = nI v
  · by_cases z2 : ∃ v, v < n ∧ x2 = nI v
    · by_cases z3 : ∃ v, v ≤ 99 ∧ x3 = nI v
      · obtain ⟨k, hk, e1⟩ := z1
        obtain ⟨x, hx, e2⟩ := z2
        obtain ⟨r, hr, e3⟩ := z3
        subst e1
        subst e2
        subst e3
        obtain ⟨i, hi, ex⟩ := (itS_pm (c := c) (dr := 16) v8.1 (by omega) (mrs_ok (mi := mi) (v7 k hk) (by omega) v2) r).2.2.2 x hx
        exact s_whereC (d := 35) hL rfl (by omega) v2 rc.1 (VL_sm v4) (by have := v4.1; omega) rc.2.2.1 v8.1 rc.2.2.2.2.2.2.1.1 hk (rc.2.2.2.2.2.1 k hk) (v7 k hk) hx hr hmi hi ex ⟨_, rfl, s_whereM (d := 35) hL rfl hb v8.1 rm.2.2.2.2.2.2.2 hk hx hr hmi hi ex (fun h' e2 g2 => ⟨rfl, g h' (Scr.of e2 g2)⟩)⟩
      · have nM : ¬ r_X11_isIn x3 (nI 0) (nI 99) = true := fun k => z3 ((isIn_iff (by decide)).mp k)
        refine b_X10_where (d := 35) hL rfl _ _ _ _ ⟨fun _ => ⟨fun _ => ⟨fun _ => ?_, fun k1 => ⟨fun _ => ?_, fun k2 => ?_⟩⟩, fun _ => ?_⟩, fun _ => ?_⟩
        case refine_3 =>
          obtain ⟨t, ht, e⟩ := nI_of k1
          subst e
          exact absurd ⟨t, Nat.le_of_not_lt (fun u => k2 (nI_lt u ht)), rfl⟩ z3
        all_goals
          refine ⟨_, rfl, b_X11_where (d := 35) hL rfl _ _ _ _ ⟨fun _ => ⟨fun _ => ⟨fun k => absurd k nM, fun _ => ⟨rfl, gh⟩⟩, fun _ => ⟨rfl, gh⟩⟩, fun _ => ⟨rfl, gh⟩⟩⟩
    · have nC : ¬ r_X10_isSlot x2 h = true := fun k => z2 ((isSlotC_iff rc.1 v2).mp k)
      have nM : ¬ r_X11_isSlot x2 h = true := fun k => z2 ((isSlotM_iff rm.1 (by omega) v2).mp k)
      refine b_X10_where (d := 35) hL rfl _ _ _ _ ⟨fun _ => ⟨fun k => absurd k nC, fun _ => ?_⟩, fun _ => ?_⟩
      all_goals
        refine ⟨_, rfl, b_X11_where (d := 35) hL rfl _ _ _ _ ⟨fun _ => ⟨fun k => absurd k nM, fun _ => ⟨rfl, gh⟩⟩, fun _ => ⟨rfl, gh⟩⟩⟩
  · refine b_X10_where (d := 35) hL rfl _ _ _ _ ⟨fun k => absurd (isSongC_iff.mp k) z1, fun _ => ⟨_, rfl, ?_⟩⟩
    exact b_X11_where (d := 35) hL rfl _ _ _ _ ⟨fun k => absurd (isSongM_iff.mp k) z1, fun _ => ⟨rfl, gh⟩⟩
end Where
