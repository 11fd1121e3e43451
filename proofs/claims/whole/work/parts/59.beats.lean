-- beats in which monks lift
def crsB (a b c d : Nat) : Bool := decide (a = c ∨ a = d ∨ b = c ∨ b = d ∨ ¬ ((min c d < a ∧ a < max c d) ↔ (min c d < b ∧ b < max c d)))
theorem btw_nI {x a b : Nat} (hx : x < 16) (ha : a < 16) (hb : b < 16) : r_X4_isBetween (nI x) (nI a) (nI b) = decide (min a b < x ∧ x < max a b) := by
  unfold r_X4_isBetween
  have e1 : (if nI b < nI a then nI b else nI a) = nI (min a b) := by
    by_cases z : b < a
    · rw [if_pos (nI_lt z (by omega)), Nat.min_eq_right (by omega)]
    · rw [if_neg (nI_nlt (by omega) (by omega)), Nat.min_eq_left (by omega)]
  have e2 : (if nI a < nI b then nI b else nI a) = nI (max a b) := by
    by_cases z : a < b
    · rw [if_pos (nI_lt z (by omega)), Nat.max_eq_right (by omega)]
    · rw [if_neg (nI_nlt (by omega) (by omega)), Nat.max_eq_left (by omega)]
  rw [e1, e2]
  by_cases z : min a b < x
  · rw [if_pos (nI_lt z (by omega))]
    by_cases y : x < max a b
    · rw [if_pos (nI_lt y (by omega)), decide_eq_true ⟨z, y⟩]
    · rw [if_neg (nI_nlt (by omega) (by omega)), decide_eq_false (fun k => y k.2)]
  · rw [if_neg (nI_nlt (by omega) (by omega)), decide_eq_false (fun k => z k.1)]
theorem wth_nI {x a b : Nat} (hx : x < 16) (ha : a < 16) (hb : b < 16) : r_X11_isWithin (nI x) (nI a) (nI b) = decide (min a b ≤ x ∧ x ≤ max a b) := by
  unfold r_X11_isWithin
  have key : ∀ u v, u < 16 → v < 16 → u ≤ v → r_X11_isIn (nI x) (nI u) (nI v) = decide (u ≤ x ∧ x ≤ v) := fun u v hu hv _ => by
    have k := isIn_nat (v := x) (a := u) (b := v) (by omega) (by omega) (by omega)
    cases hq : r_X11_isIn (nI x) (nI u) (nI v) with
    | true => rw [decide_eq_true (k.mp hq)]
    | false => rw [decide_eq_false (fun z => by rw [k.mpr z] at hq; exact absurd hq (by decide))]
  by_cases z : a < b
  · rw [if_pos (nI_lt z (by omega)), key a b ha hb (by omega), Nat.min_eq_left (by omega), Nat.max_eq_right (by omega)]
  · rw [if_neg (nI_nlt (by omega) (by omega)), key b a hb ha (by omega), Nat.min_eq_right (by omega), Nat.max_eq_left (by omega)]
theorem b2i_eq {p q : Bool} : (b2i p = b2i q) ↔ (p = true ↔ q = true) := by cases p <;> cases q <;> decide
theorem nIe {a b : Nat} (ha : a < 16) (hb : b < 16) : (nI a = nI b) ↔ a = b := ⟨fun e => nI_inj (by omega) (by omega) e, fun e => by rw [e]⟩
theorem crossC {m m' : Mv} {n : Nat} (h16 : n ≤ 16) (hm : mvN n m) (hm' : mvN n m') : r_X4_cross (nI (pk m)) (nI (pk m')) = crsB m.2.1 m.2.2.1 m'.2.1 m'.2.2.1 := by
  obtain ⟨b1, b2, b3, b4, b5⟩ := mv_b hm h16
  obtain ⟨c1, c2, c3, c4, c5⟩ := mv_b hm' h16
  unfold r_X4_cross crsB
  rw [from_pk b1 b2 b5, to_pk b1 b2 b3 b5, from_pk c1 c2 c5, to_pk c1 c2 c3 c5, btw_nI b2 c2 c3, btw_nI b3 c2 c3, btw_nI c2 b2 b3, btw_nI c3 b2 b3]
  generalize m.2.1 = a at *
  generalize m.2.2.1 = b at *
  generalize m'.2.1 = c at *
  generalize m'.2.2.1 = e at *
  by_cases z1 : a = c
  · rw [if_pos (by rw [z1]), decide_eq_true (Or.inl z1)]
  · rw [if_neg (fun k => z1 ((nIe b2 c2).mp k))]
    by_cases z2 : a = e
    · rw [if_pos (by rw [z2]), decide_eq_true (Or.inr (Or.inl z2))]
    · rw [if_neg (fun k => z2 ((nIe b2 c3).mp k))]
      by_cases z3 : b = c
      · rw [if_pos (by rw [z3]), decide_eq_true (Or.inr (Or.inr (Or.inl z3)))]
      · rw [if_neg (fun k => z3 ((nIe b3 c2).mp k))]
        by_cases z4 : b = e
        · rw [if_pos (by rw [z4]), decide_eq_true (Or.inr (Or.inr (Or.inr (Or.inl z4))))]
        · rw [if_neg (fun k => z4 ((nIe b3 c3).mp k))]
          by_cases z5 : (min c e < a ∧ a < max c e) ↔ (min c e < b ∧ b < max c e)
          · have k1 : b2i (decide (min c e < a ∧ a < max c e)) = b2i (decide (min c e < b ∧ b < max c e)) := b2i_eq.mpr (by rw [decide_eq_true_iff, decide_eq_true_iff]; exact z5)
            have k2 : b2i (decide (min a b < c ∧ c < max a b)) = b2i (decide (min a b < e ∧ e < max a b)) := b2i_eq.mpr (by rw [decide_eq_true_iff, decide_eq_true_iff]; omega)
            rw [if_pos k1, if_pos k2, decide_eq_false (fun k => by omega)]
          · have k1 : ¬ b2i (decide (min c e < a ∧ a < max c e)) = b2i (decide (min c e < b ∧ b < max c e)) := fun k => z5 (by
              have := b2i_eq.mp k
              rw [decide_eq_true_iff, decide_eq_true_iff] at this
              exact this)
            rw [if_neg k1, decide_eq_true (Or.inr (Or.inr (Or.inr (Or.inr z5))))]
theorem crossM {h : Hp} {s : List Mv} {n k i j : Nat} (h16 : n ≤ 16) (hk : k < 4) (hG : MG h 60 k s) (hN : sgN n s) (hi : i < s.length) (hj : j < s.length) : p_X11_doCross (nI k) (nI j) (nI i) h ∧ r_X11_doCross (nI k) (nI j) (nI i) h = crsB (gM s i).2.1 (gM s i).2.2.1 (gM s j).2.1 (gM s j).2.2.1 := by
  have h200 := hG.1
  obtain ⟨b1, b2, b3, b4, b5⟩ := mv_b (hN _ (gM_mem hi)) h16
  obtain ⟨c1, c2, c3, c4, c5⟩ := mv_b (hN _ (gM_mem hj)) h16
  obtain ⟨f0, f1, f2, f3⟩ := hG.2.2 i hi
  obtain ⟨g0, g1, g2, g3⟩ := hG.2.2 j hj
  obtain ⟨p1, q1⟩ := ofMove_eq (f := 1) hk (show i < 200 by omega) (by decide) h
  obtain ⟨p2, q2⟩ := ofMove_eq (f := 2) hk (show i < 200 by omega) (by decide) h
  obtain ⟨p3, q3⟩ := ofMove_eq (f := 1) hk (show j < 200 by omega) (by decide) h
  obtain ⟨p4, q4⟩ := ofMove_eq (f := 2) hk (show j < 200 by omega) (by decide) h
  refine ⟨⟨p3, p4, p1, p2, fun _ => trivial, fun _ => ⟨fun _ => trivial, fun _ => ⟨fun _ => trivial, fun _ => ⟨fun _ => trivial, fun _ => ⟨fun _ => trivial, fun _ => trivial⟩⟩⟩⟩⟩, ?_⟩
  unfold r_X11_doCross crsB
  rw [q1, q2, q3, q4, f1, f2, g1, g2, wth_nI b2 c2 c3, wth_nI b3 c2 c3]
  generalize (gM s i).2.1 = a at *
  generalize (gM s i).2.2.1 = b at *
  generalize (gM s j).2.1 = c at *
  generalize (gM s j).2.2.1 = e at *
  by_cases z1 : a = c
  · rw [if_pos (by rw [z1]), decide_eq_true (Or.inl z1)]
  · rw [if_neg (fun k => z1 ((nIe c2 b2).mp k).symm)]
    by_cases z3 : b = c
    · rw [if_pos (by rw [z3]), decide_eq_true (Or.inr (Or.inr (Or.inl z3)))]
    · rw [if_neg (fun k => z3 ((nIe c2 b3).mp k).symm)]
      by_cases z2 : a = e
      · rw [if_pos (by rw [z2]), decide_eq_true (Or.inr (Or.inl z2))]
      · rw [if_neg (fun k => z2 ((nIe c3 b2).mp k).symm)]
        by_cases z4 : b = e
        · rw [if_pos (by rw [z4]), decide_eq_true (Or.inr (Or.inr (Or.inr (Or.inl z4))))]
        · rw [if_neg (fun k => z4 ((nIe c3 b3).mp k).symm)]
          by_cases z5 : (min c e < a ∧ a < max c e) ↔ (min c e < b ∧ b < max c e)
          · have k1 : b2i (decide (min c e ≤ a ∧ a ≤ max c e)) = b2i (decide (min c e ≤ b ∧ b ≤ max c e)) := b2i_eq.mpr (by rw [decide_eq_true_iff, decide_eq_true_iff]; omega)
            rw [if_pos k1, decide_eq_false (fun k => by omega)]
          · have k1 : ¬ b2i (decide (min c e ≤ a ∧ a ≤ max c e)) = b2i (decide (min c e ≤ b ∧ b ≤ max c e)) := fun k => z5 (by
              have := b2i_eq.mp k
              rw [decide_eq_true_iff, decide_eq_true_iff] at this
              omega)
            rw [if_neg k1, decide_eq_true (Or.inr (Or.inr (Or.inr (Or.inr z5))))]
def crs (s : List Mv) (i j : Nat) : Bool := crsB (gM s i).2.1 (gM s i).2.2.1 (gM s j).2.1 (gM s j).2.2.1
def t1f (s : List Mv) (bt : Nat → Nat) (i : Nat) : Nat → Nat
  | 0 => 1
  | j + 1 => if (gM s j).1 ≠ 2 ∧ crs s i j = true ∧ t1f s bt i j < bt j + 1 then bt j + 1 else t1f s bt i j
def etf (bs : Nat → Nat) (K t : Nat) : Nat := t + fa_first (fun x => decide (bs (t + x) < K)) 300
abbrev Bst : Type := (Nat → Nat) × (Nat → Nat) × Nat
def bst (s : List Mv) (K : Nat) : Nat → Bst
  | 0 => (fun _ => 0, fun _ => 0, 0)
  | i + 1 => if (gM s i).1 = 2 then bst s K i else
      ((fun x => if x = i then etf (bst s K i).2.1 K (t1f s (bst s K i).1 i i) else (bst s K i).1 x), (fun t => if t = etf (bst s K i).2.1 K (t1f s (bst s K i).1 i i) then (bst s K i).2.1 t + 1 else (bst s K i).2.1 t), max (bst s K i).2.2 (etf (bst s K i).2.1 K (t1f s (bst s K i).1 i i)))
/-- what holds of beats so far -/
def BI (s : List Mv) (K i : Nat) (p : Bst) : Prop := p.2.2 ≤ i ∧ (∀ j, p.1 j ≤ p.2.2) ∧ (∀ j, (i ≤ j ∨ (gM s j).1 = 2) → p.1 j = 0) ∧ (∀ t, p.2.2 < t → p.2.1 t = 0) ∧ ∀ t, p.2.1 t ≤ K
theorem t1f_le {s : List Mv} {bt : Nat → Nat} {i M : Nat} (hb : ∀ j, bt j ≤ M) : ∀ j, 1 ≤ t1f s bt i j ∧ t1f s bt i j ≤ M + 1
  | 0 => ⟨Nat.le_refl _, by show 1 ≤ M + 1; omega⟩
  | j + 1 => by
    have ih := t1f_le (s := s) (i := i) hb j
    have := hb j
    unfold t1f
    split
    · omega
    · exact ih
theorem etf_ok {bs : Nat → Nat} {K t M : Nat} (hK : 1 ≤ K) (hM : M ≤ 250) (h1 : 1 ≤ t) (ht : t ≤ M + 1) (hz : ∀ x, M < x → bs x = 0) : t ≤ etf bs K t ∧ etf bs K t ≤ M + 1 ∧ bs (etf bs K t) < K ∧ ∀ x, t ≤ x → x < etf bs K t → ¬ bs x < K := by
  have le : fa_first (fun x => decide (bs (t + x) < K)) 300 ≤ M + 1 - t := by
    rcases Nat.lt_or_ge (M + 1 - t) (fa_first (fun x => decide (bs (t + x) < K)) 300) with q | q
    · have := fa_first_no (fun x => decide (bs (t + x) < K)) 300 _ q
      have := of_decide_eq_false this
      rw [show t + (M + 1 - t) = M + 1 by omega, hz _ (by omega)] at this
      omega
    · exact q
  refine ⟨Nat.le_add_right _ _, by unfold etf; omega, of_decide_eq_true (fa_first_yes (fun x => decide (bs (t + x) < K)) 300 (by omega)), fun x a b => ?_⟩
  have := fa_first_no (fun x => decide (bs (t + x) < K)) 300 (x - t) (by unfold etf at b; omega)
  have := of_decide_eq_false this
  rw [show t + (x - t) = x by omega] at this
  exact this
theorem bst_ok {s : List Mv} {K : Nat} (hK : 1 ≤ K) : ∀ i, i ≤ 200 → BI s K i (bst s K i)
  | 0, _ => ⟨Nat.le_refl _, fun _ => Nat.le_refl _, fun _ _ => rfl, fun _ _ => rfl, fun _ => Nat.zero_le _⟩
  | i + 1, h => by
    obtain ⟨a1, a2, a3, a4, a5⟩ := bst_ok (s := s) hK i (by omega)
    unfold bst
    by_cases q : (gM s i).1 = 2
    · rw [if_pos q]
      exact ⟨by omega, a2, fun j hj => a3 j (hj.elim (fun k => Or.inl (by omega)) Or.inr), a4, a5⟩
    · rw [if_neg q]
      generalize bst s K i = p at *
      obtain ⟨t1, t2⟩ := t1f_le (s := s) (i := i) a2 i
      obtain ⟨e1, e2, e3, e4⟩ := etf_ok hK (by omega) t1 t2 a4
      generalize etf p.2.1 K (t1f s p.1 i i) = t at *
      refine ⟨?_, fun j => ?_, fun j hj => ?_, fun x hx => ?_, fun x => ?_⟩
      · show max p.2.2 t ≤ i + 1
        omega
      · show (if j = i then t else p.1 j) ≤ max p.2.2 t
        have := a2 j
        split <;> omega
      · show (if j = i then t else p.1 j) = 0
        have : j ≠ i := fun e => by
          rw [e] at hj
          exact hj.elim (fun k => by omega) (fun k => q k)
        rw [if_neg this]
        exact a3 j (hj.elim (fun k => Or.inl (by omega)) Or.inr)
      · show (if x = t then p.2.1 x + 1 else p.2.1 x) = 0
        have hx : max p.2.2 t < x := hx
        rw [if_neg (by omega)]
        exact a4 x (by omega)
      · show (if x = t then p.2.1 x + 1 else p.2.1 x) ≤ K
        have := a5 x
        by_cases z : x = t
        · rw [if_pos z, z]; omega
        · rw [if_neg z]; exact this
section BeatsM
variable {d : Nat} {T : HT} {h : Hp} {Q : Option Value → Hp → Prop} {n : Nat} {c : List Nat}
theorem s_beatsM (hL : Lay T) (eT : h.2.2 = T) {sg : Nat → List Mv} (hb : MB h n c sg) {k K : Nat} (hk : k < 4) (hK : 1 ≤ K) (hK9 : K ≤ 9)
    (KK : ∀ h' : Hp, h'.2 = h.2 → (∀ b j, b ≠ 74 → b ≠ 75 → gI h' b j = gI h b j) → Q (some (.int (nI (bst (sg k) K (sg k).length).2.2))) h') : Call (d + 3) MX11_beats [.ref 59, .int (nI k), .int (nI K)] h Q := by
  obtain ⟨c1, ⟨c2, c3⟩, ⟨c4, c5, c6⟩, c7⟩ := id hb
  obtain ⟨hG, hN⟩ := c7 k hk
  have h200 := hG.1
  have ok := bst_ok (s := sg k) hK
  refine b_X11_beats hL eT _ _ ⟨fun _ => ⟨fun _ => ?_, fun z => absurd ((isIn_nat (by omega) (by decide) (by decide)).mpr ⟨hK, hK9⟩) z⟩, fun z => absurd (isSongM_iff.mpr ⟨k, hk, rfl⟩) z⟩
  refine upto 202 (fun i h1 => h1.2 = h.2 ∧ (∀ b j, b ≠ 74 → b ≠ 75 → gI h1 b j = gI h b j) ∧ ∀ t, t < i → gI h1 75 t = nI 0) (fun i h1 => L_X11_beats_21 d (nI k) (nI K) (nI i) h1 Q) ?_ ?_ 0 h (by decide) ⟨rfl, fun _ _ _ _ => rfl, fun t ht => by omega⟩
  · rintro i h1 hi ⟨t, g, z⟩ ih
    refine b_X11_beats_21 hL (e2T t eT) _ _ _ ?_
    rw [nI_clamp (by omega), nI_add]
    refine ⟨fun _ => ⟨(inB_iff (by omega)).mpr hi, ih _ ⟨t, fun b j u v => by rw [gI_sI_ne v]; exact g b j u v, fun x hx => ?_⟩⟩, fun q => absurd (nI_lt hi (by decide)) q⟩
    rw [gI_sI_at]
    by_cases v : x = i
    · rw [if_pos v]
    · rw [if_neg v]; exact z x (by omega)
  · rintro h1 ⟨t1, g1, z1⟩
    refine b_X11_beats_21 hL (e2T t1 eT) _ _ _ ⟨fun q => absurd q (by decide), fun _ => ?_⟩
    refine upto (sg k).length (fun i h2 => h2.2 = h.2 ∧ (∀ b j, b ≠ 74 → b ≠ 75 → gI h2 b j = gI h b j) ∧ (∀ j, j < i → gI h2 74 j = nI ((bst (sg k) K i).1 j)) ∧ ∀ t, t < 202 → gI h2 75 t = nI ((bst (sg k) K i).2.1 t)) (fun i h2 => L_X11_beats_46 d (nI k) (nI K) (nI (bst (sg k) K i).2.2) (nI i) h2 Q) ?_ ?_ 0 h1 (Nat.zero_le _) ⟨t1, g1, fun j hj => by omega, z1⟩
    · rintro i h2 hi ⟨t2, g2, b2, y2⟩ ih
      obtain ⟨a1, a2, a3, a4, a5⟩ := ok i (by omega)
      have g60 : ∀ (x : Int32) j, gI (sI h2 74 i x) 60 j = gI h 60 j := fun x j => by rw [gI_sI_ne (by decide)]; exact g2 _ _ (by decide) (by decide)
      obtain ⟨p1, p2⟩ := ofMove_eq (f := 0) hk (show i < 200 by omega) (by decide) (sI h2 74 i (nI 0))
      rw [Nat.add_zero, g60, (hG.2.2 i hi).1] at p2
      have hm := hN _ (gM_mem hi)
      refine b_X11_beats_46 hL (e2T t2 eT) _ _ _ _ ?_
      rw [nI_add 975 k, nI_clamp (by omega), g2 60 _ (by decide) (by decide), hG.2.1, nI_clamp (by omega), p2, nI_add i 1]
      unfold bst at ih
      refine ⟨(inB_iff (by omega)).mpr (by omega), fun _ => ⟨(inB_iff (by omega)).mpr (by omega), p1, fun q => ?_, fun q => ?_⟩, fun q => absurd (nI_lt hi (by omega)) q⟩
      · have q : (gM (sg k) i).1 = 2 := nI_inj (by have := hm.1; omega) (by decide) q
        rw [if_pos q] at ih
        refine ih _ ⟨t2, fun b j u v => by rw [gI_sI_ne u]; exact g2 b j u v, fun j hj => ?_, fun t ht => by rw [gI_sI_ne (by decide)]; exact y2 t ht⟩
        rw [gI_sI_at]
        by_cases v : j = i
        · rw [if_pos v, v, a3 i (Or.inl (Nat.le_refl _))]
        · rw [if_neg v]; exact b2 j (by omega)
      · have q : (gM (sg k) i).1 ≠ 2 := fun e => q (by rw [e])
        rw [if_neg q] at ih
        generalize bst (sg k) K i = p at *
        have hB : ∀ j, j < i → gI (sI h2 74 i (nI 0)) 74 j = nI (p.1 j) := fun j hj => by rw [gI_sI_at, if_neg (by omega)]; exact b2 j hj
        have hY : ∀ t, t < 202 → gI (sI h2 74 i (nI 0)) 75 t = nI (p.2.1 t) := fun t ht => by rw [gI_sI_ne (by decide)]; exact y2 t ht
        have hGo : ∀ b j, b ≠ 74 → b ≠ 75 → gI (sI h2 74 i (nI 0)) b j = gI h b j := fun b j u v => by rw [gI_sI_ne u]; exact g2 b j u v
        have hT : (sI h2 74 i (nI 0)).2 = h.2 := t2
        generalize sI h2 74 i (nI 0) = h3 at *
        have hG3 : MG h3 60 k (sg k) := hG.tr (fun j => hGo 60 j (by decide) (by decide))
        refine upto i (fun j h4 => h4 = h3) (fun j h4 => L_X11_beats_90 d (nI k) (nI K) (nI p.2.2) (nI i) (nI (t1f (sg k) p.1 i j)) (nI j) h4 Q) ?_ ?_ 0 h3 (Nat.zero_le _) rfl
        · rintro j h4 hj rfl ihj
          obtain ⟨u1, u2⟩ := t1f_le (s := sg k) (i := i) a2 j
          have u3 := a2 j
          obtain ⟨cp, cr⟩ := crossM c3 hk hG3 hN hi (show j < (sg k).length by omega)
          have ihj := ihj h4 rfl
          unfold t1f at ihj
          refine b_X11_beats_90 hL (e2T hT eT) _ _ _ _ _ _ ?_
          rw [nI_clamp (by omega), hB j hj, cr, nI_add j 1, nI_add _ 1]
          refine ⟨fun _ => ⟨(inB_iff (by omega)).mpr (by omega), fun z => ?_, fun z => ⟨cp, fun y => ⟨(inB_iff (by omega)).mpr (by omega), ?_⟩, fun y => ?_⟩⟩, fun z => absurd (nI_lt hj (by omega)) z⟩
          · have z := (nI_ltI (by omega) (by omega)).mp z
            rw [if_neg (fun e => by omega)] at ihj
            exact ihj
          · have z : t1f (sg k) p.1 i j ≤ p.1 j := Nat.le_of_not_lt (fun u => z (nI_lt u (by omega)))
            have nt : (gM (sg k) j).1 ≠ 2 := fun e => by
              have := a3 j (Or.inr e)
              omega
            rw [if_pos ⟨nt, y, by omega⟩] at ihj
            exact ihj
          · rw [if_neg (fun e => y e.2.1)] at ihj
            exact ihj
        · rintro h4 rfl
          refine b_X11_beats_90 hL (e2T hT eT) _ _ _ _ _ _ ⟨fun z => absurd z (nI_nlt (Nat.le_refl _) (by omega)), fun _ => ?_⟩
          obtain ⟨u1, u2⟩ := t1f_le (s := sg k) (i := i) a2 i
          obtain ⟨e1, e2, e3, e4⟩ := etf_ok hK (show p.2.2 ≤ 250 by omega) u1 u2 a4
          generalize etf p.2.1 K (t1f (sg k) p.1 i i) = t at *
          refine upto t (fun x h5 => h5 = h4 ∧ t1f (sg k) p.1 i i ≤ x) (fun x h5 => L_X11_beats_138 d (nI k) (nI K) (nI p.2.2) (nI i) (nI x) h5 Q) ?_ ?_ (t1f (sg k) p.1 i i) h4 e1 ⟨rfl, Nat.le_refl _⟩
          · rintro x h5 hx ⟨rfl, lx⟩ ihx
            refine b_X11_beats_138 hL (e2T hT eT) _ _ _ _ _ ?_
            have v1 := e4 x lx hx
            have v2 := a5 x
            rw [nI_clamp (show x < 2 ^ 31 by omega), hY x (by omega), nI_add x 1]
            exact ⟨(inB_iff (by omega)).mpr (by omega), fun _ => ihx _ ⟨rfl, by omega⟩, fun z => absurd (by rw [show p.2.1 x = K by omega]) z⟩
          · rintro h5 ⟨rfl, lx⟩
            refine b_X11_beats_138 hL (e2T hT eT) _ _ _ _ _ ?_
            rw [nI_clamp (show t < 2 ^ 31 by omega), hY t (by omega), nI_clamp (show i < 2 ^ 31 by omega), gI_sI_ne (by decide), hY t (by omega), nI_add (p.2.1 t) 1, nI_add i 1]
            have it : inB (nI t) 202 = true := (inB_iff (by omega)).mpr (by omega)
            have fin := ih (sI (sI h5 74 i (nI t)) 75 t (nI (p.2.1 t + 1))) ⟨hT, fun b j u v => by rw [gI_sI_ne v, gI_sI_ne u]; exact hGo b j u v, fun j hj => ?_, fun x hx => ?_⟩
            · refine ⟨it, fun z => absurd (nI_inj (by have := a5 t; omega) (by omega) z) (by omega), fun _ => ⟨(inB_iff (by omega)).mpr (by omega), it, it, fun z => ?_, fun z => ?_⟩⟩
              · have z := (nI_ltI (by omega) (by omega)).mp z
                have e : max p.2.2 t = t := by omega
                dsimp only at fin
                rw [e] at fin
                exact fin
              · have z : t ≤ p.2.2 := Nat.le_of_not_lt (fun u => z (nI_lt u (by omega)))
                have e : max p.2.2 t = p.2.2 := by omega
                dsimp only at fin
                rw [e] at fin
                exact fin
            · dsimp only
              rw [gI_sI_ne (by decide), gI_sI_at]
              by_cases v : j = i
              · rw [if_pos v, if_pos v]
              · rw [if_neg v, if_neg v]; exact hB j (by omega)
            · dsimp only
              rw [gI_sI_at]
              by_cases v : x = t
              · rw [if_pos v, if_pos v, v]
              · rw [if_neg v, if_neg v, gI_sI_ne (by decide)]; exact hY x hx
    · rintro h2 ⟨t2, g2, b2, y2⟩
      refine b_X11_beats_46 hL (e2T t2 eT) _ _ _ _ ?_
      rw [nI_add 975 k, nI_clamp (by omega), g2 60 _ (by decide) (by decide), hG.2.1]
      exact ⟨(inB_iff (by omega)).mpr (by omega), fun q => absurd q (nI_nlt (Nat.le_refl _) (by omega)), fun _ => KK h2 t2 g2⟩
theorem s_beatsC (hL : Lay T) (eT : h.2.2 = T) (h16 : n ≤ 16) {k K : Nat} (hk : k < 4) {s : List Mv} (hG : SG h (20 + 2 * k) s) (hN : sgN n s) (hK : 1 ≤ K) (hK9 : K ≤ 9)
    (KK : ∀ h' : Hp, h'.2 = h.2 → (∀ b j, b ≠ 51 → b ≠ 52 → gI h' b j = gI h b j) → Q (some (.int (nI (bst s K s.length).2.2))) h') : Call (d + 4) MX10_beats [.ref 1, .int (nI k), .int (nI K)] h Q := by
  have h200 := hG.1
  have hI7 := isX7_song hL hk
  have ok := bst_ok (s := s) hK
  refine b_X10_beats hL eT _ _ ⟨fun _ => ⟨fun z => absurd z (nI_nlt hK (by omega)), fun _ => ⟨fun z => absurd z (nI_nlt hK9 (by decide)), fun _ => ⟨k, rfl, hk, ?_⟩⟩⟩, fun z => absurd (isSongC_iff.mpr ⟨k, hk, rfl⟩) z⟩
  refine b_X0_needed hL eT _ _ hI7 ?_
  refine s_fill (d := d + 2) hL eT (kd_52 hL) (by decide) _ (fun h1 t1 g1 => ⟨rfl, e2T t1 eT, ?_⟩)
  refine upto s.length (fun i h2 => h2.2 = h.2 ∧ (∀ b j, b ≠ 51 → b ≠ 52 → gI h2 b j = gI h b j) ∧ (∀ j, j < i → (gM s j).1 ≠ 2 → gI h2 51 j = nI ((bst s K i).1 j)) ∧ ∀ t, t < 202 → gI h2 52 t = nI ((bst s K i).2.1 t)) (fun i h2 => L_X0_needed_13 d (20 + 2 * k) (nI K) (nI (bst s K i).2.2) (nI i) h2 (fun v h' => ∃ r, v = some (.int r) ∧ h'.2.2 = T ∧ Q (some (.int r)) h')) ?_ ?_ 0 h1 (Nat.zero_le _) ⟨t1, fun b j _ v => by rw [g1, if_neg (fun z => v z.1)], fun j hj => by omega, fun t ht => by rw [g1, if_pos ⟨rfl, ht⟩]; rfl⟩
  · rintro i h2 hi ⟨t2, g2, b2, y2⟩ ih
    obtain ⟨a1, a2, a3, a4, a5⟩ := ok i (by omega)
    have hm := hN _ (gM_mem hi)
    obtain ⟨m1, m2, m3, m4, m5⟩ := mv_b hm h16
    have f1 : ∀ j, j < s.length → gI h2 (20 + 2 * k + 1) j = nI (pk (gM s j)) := fun j hj => by rw [g2 _ _ (by omega) (by omega)]; exact hG.2.2 j hj
    refine b_X0_needed_13 hL (e2T t2 eT) _ _ _ _ hI7 ?_
    rw [g2 (20 + 2 * k) 0 (by omega) (by omega), hG.2.1, nI_clamp (by omega), f1 i hi, nI_add i 1]
    unfold bst at ih
    refine ⟨fun _ => ⟨(inB_iff (by omega)).mpr (by omega), fun q => ?_, fun q => ?_⟩, fun q => absurd (nI_lt hi (by omega)) q⟩
    · have q := (isTurn_pk m1).mp q
      rw [if_pos q] at ih
      refine ih h2 ⟨t2, g2, fun j hj nt => ?_, y2⟩
      by_cases v : j = i
      · rw [v] at nt; exact absurd q nt
      · exact b2 j (by omega) nt
    · have q : (gM s i).1 ≠ 2 := fun e => q ((isTurn_pk m1).mpr e)
      rw [if_neg q] at ih
      generalize bst s K i = p at *
      obtain ⟨v1, v2⟩ := t1f_le (s := s) (i := i) a2 i
      obtain ⟨e1, e2, e3, e4⟩ := etf_ok hK (show p.2.2 ≤ 250 by omega) v1 v2 a4
      refine b_X0_earliest hL (e2T t2 eT) _ _ _ hI7 ?_
      refine upto i (fun j h4 => h4 = h2) (fun j h4 => L_X0_earliest_6 d (20 + 2 * k) (nI i) (nI K) (nI (t1f s p.1 i j)) (nI j) h4 _) ?_ ?_ 0 h2 (Nat.zero_le _) rfl
      · rintro j h4 hj rfl ihj
        obtain ⟨u1, u2⟩ := t1f_le (s := s) (i := i) a2 j
        have u3 := a2 j
        have hmj := hN _ (gM_mem (show j < s.length by omega))
        obtain ⟨l1, l2, l3, l4, l5⟩ := mv_b hmj h16
        have ihj := ihj h4 rfl
        unfold t1f at ihj
        refine b_X0_earliest_6 hL (e2T t2 eT) _ _ _ _ _ hI7 ?_
        rw [nI_clamp (show j < 2 ^ 31 by omega), nI_clamp (show i < 2 ^ 31 by omega), f1 i hi, f1 j (by omega), crossC h16 hm hmj, nI_add j 1]
        have ij : inB (nI j) 200 = true := (inB_iff (by omega)).mpr (by omega)
        refine ⟨fun _ => ⟨ij, fun z => ?_, fun z => ⟨(inB_iff (by omega)).mpr (by omega), ij, fun y => ⟨ij, ?_⟩, fun y => ?_⟩⟩, fun z => absurd (nI_lt hj (by omega)) z⟩
        · have z := (isTurn_pk l1).mp z
          rw [if_neg (fun e => e.1 z)] at ihj
          exact ihj
        · have z : (gM s j).1 ≠ 2 := fun e => z ((isTurn_pk l1).mpr e)
          rw [b2 j hj z, nI_add _ 1]
          by_cases w : t1f s p.1 i j < p.1 j + 1
          · rw [if_pos ⟨z, y, w⟩] at ihj
            rw [if_pos (nI_lt w (by omega))]
            exact ihj
          · rw [if_neg (fun e => w e.2.2)] at ihj
            rw [if_neg (nI_nlt (by omega) (by omega))]
            exact ihj
        · rw [if_neg (fun e => y e.2.1)] at ihj
          exact ihj
      · rintro h4 rfl
        refine b_X0_earliest_6 hL (e2T t2 eT) _ _ _ _ _ hI7 ⟨fun z => absurd z (nI_nlt (Nat.le_refl _) (by omega)), fun _ => ?_⟩
        generalize etf p.2.1 K (t1f s p.1 i i) = t at *
        have fin : ∃ r, some (Value.int (nI t)) = some (Value.int r) ∧ h4.2.2 = T ∧ inB (nI i) 200 = true ∧ inB r 202 = true ∧ inB r 202 = true ∧ L_X0_needed_13 d (20 + 2 * k) (nI K) (if nI p.2.2 < r then r else nI p.2.2) (nI (i + 1)) (sI (sI h4 51 i r) 52 r.toNatClampNeg (gI (sI h4 51 i r) 52 r.toNatClampNeg + nI 1)) (fun v h' => ∃ r, v = some (.int r) ∧ h'.2.2 = T ∧ Q (some (.int r)) h') := by
          have it : inB (nI t) 202 = true := (inB_iff (by omega)).mpr (by omega)
          refine ⟨nI t, rfl, e2T t2 eT, (inB_iff (by omega)).mpr (by omega), it, it, ?_⟩
          rw [nI_clamp (show t < 2 ^ 31 by omega), gI_sI_ne (by decide), y2 t (by omega), nI_add _ 1]
          have em : (if nI p.2.2 < nI t then nI t else nI p.2.2) = nI (max p.2.2 t) := by
            by_cases z : p.2.2 < t
            · rw [if_pos (nI_lt z (by omega)), Nat.max_eq_right (by omega)]
            · rw [if_neg (nI_nlt (by omega) (by omega)), Nat.max_eq_left (by omega)]
          rw [em]
          refine ih _ ⟨t2, fun b j u v => by rw [gI_sI_ne v, gI_sI_ne u]; exact g2 b j u v, fun j hj nt => ?_, fun x hx => ?_⟩
          · dsimp only
            rw [gI_sI_ne (by decide), gI_sI_at]
            by_cases v : j = i
            · rw [if_pos v, if_pos v]
            · rw [if_neg v, if_neg v]; exact b2 j (by omega) nt
          · dsimp only
            rw [gI_sI_at]
            by_cases v : x = t
            · rw [if_pos v, if_pos v, v]
            · rw [if_neg v, if_neg v, gI_sI_ne (by decide)]; exact y2 x hx
        refine upto t (fun x h5 => h5 = h4 ∧ t1f s p.1 i i ≤ x) (fun x h5 => L_X0_earliest_78 d (20 + 2 * k) (nI K) (nI x) h5 _) ?_ ?_ (t1f s p.1 i i) h4 e1 ⟨rfl, Nat.le_refl _⟩
        · rintro x h5 hx ⟨rfl, lx⟩ ihx
          have w1 := e4 x lx hx
          have w2 := a5 x
          refine b_X0_earliest_78 hL (e2T t2 eT) _ _ _ hI7 ?_
          rw [nI_clamp (show x < 2 ^ 31 by omega), y2 x (by omega), nI_add x 1]
          exact ⟨fun _ => ⟨(inB_iff (by omega)).mpr (by omega), fun z => absurd z (nI_nlt (by omega) (by omega)), fun _ => ihx _ ⟨rfl, by omega⟩⟩, fun z => absurd (nI_lt (by omega) (by decide)) z⟩
        · rintro h5 ⟨rfl, lx⟩
          refine b_X0_earliest_78 hL (e2T t2 eT) _ _ _ hI7 ?_
          rw [nI_clamp (show t < 2 ^ 31 by omega), y2 t (by omega)]
          exact ⟨fun _ => ⟨(inB_iff (by omega)).mpr (by omega), fun _ => fin, fun z => absurd (nI_lt e3 (by omega)) z⟩, fun _ => fin⟩
  · rintro h2 ⟨t2, g2, b2, y2⟩
    refine b_X0_needed_13 hL (e2T t2 eT) _ _ _ _ hI7 ?_
    rw [g2 (20 + 2 * k) 0 (by omega) (by omega), hG.2.1]
    exact ⟨fun q => absurd q (nI_nlt (Nat.le_refl _) (by omega)), fun _ => ⟨_, rfl, e2T t2 eT, KK h2 t2 g2⟩⟩
theorem op_beats {L : Nat} {xs : Nat → Int32} (I : Inv L xs h) (x1 x2 : Int32) : Op MX10_beats MX11_beats [.int x1, .int x2] h (Inv L xs) := by
  obtain ⟨R, n, sl, c, q, nm, sg, w, v, rc, rm, hs⟩ := id I
  have hL := R.1
  have hb := RM.mb v rm
  obtain ⟨⟨v1, v2⟩, v3, v4, v5, v6, v7, v8⟩ := id v
  have no : ∀ r : Int32, r = -1 → ¬ (r_X11_isSong x1 = true ∧ r_X11_isIn x2 (nI 1) (nI 9) = true) → Call 39 MX11_beats [.ref 59, .int x1, .int x2] h (fun v' h2 => v' = some (.int r) ∧ Inv L xs h2) := by
    intro r er z
    subst er
    exact b_X11_beats (d := 36) hL rfl _ _ ⟨fun k1 => ⟨fun k2 => absurd ⟨k1, k2⟩ z, fun _ => ⟨rfl, I⟩⟩, fun _ => ⟨rfl, I⟩⟩
  by_cases z : (∃ v, v < 4 ∧ x1 = nI v) ∧ ∃ v, (1 ≤ v ∧ v ≤ 9) ∧ x2 = nI v
  · obtain ⟨⟨k, hk, e1⟩, K, ⟨K1, K9⟩, e2⟩ := z
    subst e1
    subst e2
    refine s_beatsC (d := 35) hL rfl v2 hk (rc.2.2.2.2.2.1 k hk) (v7 k hk) K1 K9 (fun h1 t1 g1 => ⟨_, rfl, ?_⟩)
    have I1 := I.scr ⟨by rw [t1], fun b j _ u _ _ => g1 b j (by omega) (by omega), fun b j _ => gJ_e2 t1 b j⟩
    exact s_beatsM (d := 36) (by rw [t1]; exact hL) rfl (hb.tr (fun j _ => g1 _ _ (by decide) (by decide))) hk K1 K9 (fun h2 t2 g2 => ⟨rfl, I1.scr ⟨by rw [t2], fun b j _ _ u _ => g2 b j (by omega) (by omega), fun b j _ => gJ_e2 t2 b j⟩⟩)
  · have zM : ¬ (r_X11_isSong x1 = true ∧ r_X11_isIn x2 (nI 1) (nI 9) = true) := by
      rintro ⟨k1, k2⟩
      apply z
      refine ⟨isSongM_iff.mp k1, ?_⟩
      have x0 : ¬ x2 < 0 := fun u => isIn_neg _ (by decide) u k2
      obtain ⟨t, ht, e⟩ := nI_of x0
      subst e
      exact ⟨t, (isIn_nat ht (by decide) (by decide)).mp k2, rfl⟩
    refine b_X10_beats (d := 35) hL rfl _ _ ⟨fun k1 => ⟨fun k2 => ⟨_, rfl, no _ rfl zM⟩, fun k2 => ⟨fun k3 => ⟨_, rfl, no _ rfl zM⟩, fun k3 => ?_⟩⟩, fun k1 => ⟨_, rfl, no _ rfl zM⟩⟩
    have x0 : ¬ x2 < 0 := fun u => k2 (by
      rw [fa_lt] at u ⊢
      have : (0 : Int32).toInt = 0 := by decide
      rw [nI_toInt (by decide)]
      omega)
    obtain ⟨t, ht, e⟩ := nI_of x0
    subst e
    exact absurd ⟨isSongC_iff.mp k1, t, ⟨Nat.le_of_not_lt (fun u => k2 (nI_lt u (by decide))), Nat.le_of_not_lt (fun u => k3 (nI_lt u ht))⟩, rfl⟩ z
end BeatsM
