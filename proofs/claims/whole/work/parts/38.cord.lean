-- the class's cord
def CC (h : Hp) (a : Nat) (w : Cd) : Prop := gJ h a 0 = lN (enc w.2.2.2.1) ∧ gI h a 1 = w.1 ∧ gI h a 2 = w.2.1 ∧ (∀ s, s < 16 → gI h (a + 1) s = w.2.2.1 s) ∧ ∀ j, j < 256 → gI h (a + 2) j = w.2.2.2.2.1 j
section Cord
variable {d : Nat} {T : HT} {h : Hp} {Q : Option Value → Hp → Prop}
theorem s_countOver (hL : Lay T) (eT : h.2.2 = T) {a : Nat} (hA : IsX1 T a) {n : Nat} (h16 : n ≤ 16) {l : List Nat} (hp : pm n l) (hr : gJ h a 0 = lN (enc l)) {m : Mv} (hm : mvN n m) (h2 : m.1 ≠ 2)
    (K : ∀ h' : Hp, h'.2 = h.2 → (∀ b j, b ≠ a + 2 → gI h' b j = gI h b j) → (∀ j, j < 256 → gI h' (a + 2) j = ovr l m (fun j => gI h (a + 2) j) j) → Q none h') : Call (d + 1) MX1_countOver [.ref a, .int (nI (pk m))] h Q := by
  obtain ⟨b1, b2, b3, b4, b5⟩ := mv_b hm h16
  have hab := hm.2.2.1 (by have := hm.1; omega)
  have hl := hp.1
  have hsm := pm_sm hp h16
  have hx := sm_getD hsm m.2.1
  have emx : (if nI m.2.1 < nI m.2.2.1 then nI m.2.2.1 else nI m.2.1) = nI (max m.2.1 m.2.2.1) := by
    by_cases z : m.2.1 < m.2.2.1
    · rw [if_pos (nI_lt z (by omega)), Nat.max_eq_right (by omega)]
    · rw [if_neg (nI_nlt (by omega) (by omega)), Nat.max_eq_left (by omega)]
  have main : ∀ q : Nat, q < 2 → (q = 1 ↔ m.1 = 0) → L_X1_countOver_44 d a (nI m.2.1) (nI m.2.2.1) (nI (16 * l.getD m.2.1 0)) (nI q) (nI (min m.2.1 m.2.2.1)) h Q := by
    intro q hq2 hq
    refine upto (max m.2.1 m.2.2.1 + 1) (fun i h1 => min m.2.1 m.2.2.1 ≤ i ∧ h1.2 = h.2 ∧ (∀ b j, b ≠ a + 2 → gI h1 b j = gI h b j) ∧ ∀ j, j < 256 → ((j / 16 = l.getD m.2.1 0 ∧ ∃ t, min m.2.1 m.2.2.1 ≤ t ∧ t < i ∧ t ≠ m.2.1 ∧ (q = 1 ∨ t = m.2.2.1) ∧ l.getD t 0 = j % 16) → gI h1 (a + 2) j = gI h (a + 2) j + nI 1) ∧ (¬ (j / 16 = l.getD m.2.1 0 ∧ ∃ t, min m.2.1 m.2.2.1 ≤ t ∧ t < i ∧ t ≠ m.2.1 ∧ (q = 1 ∨ t = m.2.2.1) ∧ l.getD t 0 = j % 16) → gI h1 (a + 2) j = gI h (a + 2) j)) (fun i h1 => L_X1_countOver_44 d a (nI m.2.1) (nI m.2.2.1) (nI (16 * l.getD m.2.1 0)) (nI q) (nI i) h1 Q) ?_ ?_ (min m.2.1 m.2.2.1) h (by omega) ⟨Nat.le_refl _, rfl, fun _ _ _ => rfl, fun j hj => ⟨fun z => ?_, fun _ => rfl⟩⟩
    · rintro i h1 hi ⟨hlo, e2, g, o⟩ ih
      refine b_X1_countOver_44 hL (e2T e2 eT) _ _ _ _ _ _ hA ?_
      have er : gJ h1 a 0 = lN (enc l) := by rw [gJ_e2 e2]; exact hr
      have hy := sm_getD hsm i
      rw [emx, er, get_enc hsm (by omega) (by omega), nI_add, nI_add, nI_clamp (by omega)]
      have nop : (i = m.2.1 ∨ (q ≠ 1 ∧ i ≠ m.2.2.1)) → L_X1_countOver_44 d a (nI m.2.1) (nI m.2.2.1) (nI (16 * l.getD m.2.1 0)) (nI q) (nI (i + 1)) h1 Q := by
        intro hc
        have key : ∀ y, (∃ t, min m.2.1 m.2.2.1 ≤ t ∧ t < i + 1 ∧ t ≠ m.2.1 ∧ (q = 1 ∨ t = m.2.2.1) ∧ l.getD t 0 = y) ↔ (∃ t, min m.2.1 m.2.2.1 ≤ t ∧ t < i ∧ t ≠ m.2.1 ∧ (q = 1 ∨ t = m.2.2.1) ∧ l.getD t 0 = y) := by
          intro y
          constructor
          · rintro ⟨t, t1, t2, t3, t4, t5⟩
            have : t ≠ i := by intro z; omega
            exact ⟨t, t1, by omega, t3, t4, t5⟩
          · rintro ⟨t, t1, t2, t3, t4, t5⟩
            exact ⟨t, t1, by omega, t3, t4, t5⟩
        refine ih h1 ⟨by omega, e2, g, fun j hj => ?_⟩
        rw [key]
        exact o j hj
      have mkk : i ≠ m.2.1 → (q = 1 ∨ i = m.2.2.1) → L_X1_countOver_44 d a (nI m.2.1) (nI m.2.2.1) (nI (16 * l.getD m.2.1 0)) (nI q) (nI (i + 1)) (sI h1 (a + 2) (16 * l.getD m.2.1 0 + l.getD i 0) (gI h1 (a + 2) (16 * l.getD m.2.1 0 + l.getD i 0) + nI 1)) Q := by
        intro hc1 hc2
        refine ih _ ⟨by omega, e2, fun b j hb => by rw [gI_sI_ne hb]; exact g b j hb, fun j hj => ?_⟩
        rw [gI_sI_at]
        by_cases z : j = 16 * l.getD m.2.1 0 + l.getD i 0
        · rw [if_pos z]
          have z1 : j / 16 = l.getD m.2.1 0 := by omega
          have z2 : j % 16 = l.getD i 0 := by omega
          have hno : ¬ (j / 16 = l.getD m.2.1 0 ∧ ∃ t, min m.2.1 m.2.2.1 ≤ t ∧ t < i ∧ t ≠ m.2.1 ∧ (q = 1 ∨ t = m.2.2.1) ∧ l.getD t 0 = j % 16) := by
            rintro ⟨_, t, t1, t2, t3, t4, t5⟩
            have := hp.2.1 t i (by omega) (by omega) (by rw [t5, z2])
            omega
          refine ⟨fun _ => ?_, fun y => absurd ⟨z1, i, hlo, by omega, hc1, hc2, z2.symm⟩ y⟩
          rw [← z, (o j hj).2 hno]
        · rw [if_neg z]
          have key : (j / 16 = l.getD m.2.1 0 ∧ ∃ t, min m.2.1 m.2.2.1 ≤ t ∧ t < i + 1 ∧ t ≠ m.2.1 ∧ (q = 1 ∨ t = m.2.2.1) ∧ l.getD t 0 = j % 16) ↔ (j / 16 = l.getD m.2.1 0 ∧ ∃ t, min m.2.1 m.2.2.1 ≤ t ∧ t < i ∧ t ≠ m.2.1 ∧ (q = 1 ∨ t = m.2.2.1) ∧ l.getD t 0 = j % 16) := by
            constructor
            · rintro ⟨u, t, t1, t2, t3, t4, t5⟩
              have : t ≠ i := by
                intro y
                rw [y] at t5
                omega
              exact ⟨u, t, t1, by omega, t3, t4, t5⟩
            · rintro ⟨u, t, t1, t2, t3, t4, t5⟩
              exact ⟨u, t, t1, by omega, t3, t4, t5⟩
          rw [key]
          exact o j hj
      have ib : inB (nI (16 * l.getD m.2.1 0 + l.getD i 0)) 256 = true := (inB_iff (by omega)).mpr (by omega)
      refine ⟨fun z => absurd z (nI_nlt (by omega) (by omega)), fun _ => ⟨fun z => nop (Or.inl (nI_inj (by omega) (by omega) z)), fun z => ⟨fun y => ⟨fun v => ⟨ib, ib, ?_⟩, fun v => ?_⟩, fun y => ⟨ib, ib, ?_⟩⟩⟩⟩
      · exact mkk (fun u => z (by rw [u])) (Or.inr (nI_inj (by omega) (by omega) v))
      · exact nop (Or.inr ⟨by have := (nI_eq0 (by omega)).mp y; omega, fun u => v (by rw [u])⟩)
      · refine mkk (fun u => z (by rw [u])) (Or.inl ?_)
        have : q ≠ 0 := fun u => y (by rw [u]; rfl)
        omega
    · rintro h1 ⟨hlo, e2, g, o⟩
      refine b_X1_countOver_44 hL (e2T e2 eT) _ _ _ _ _ _ hA ?_
      rw [emx]
      refine ⟨fun _ => K h1 e2 g (fun j hj => ?_), fun z => absurd (nI_lt (by omega) (by omega)) z⟩
      have key : (∃ t, min m.2.1 m.2.2.1 ≤ t ∧ t < max m.2.1 m.2.2.1 + 1 ∧ t ≠ m.2.1 ∧ (q = 1 ∨ t = m.2.2.1) ∧ l.getD t 0 = j % 16) ↔ passB l m (j % 16) = true := by
        rw [passB_iff (by omega) (by omega) (by omega)]
        unfold passM passed
        constructor
        · rintro ⟨t, t1, t2, t3, t4, t5⟩
          by_cases z : m.1 = 0
          · exact Or.inl ⟨z, t, by omega, t5⟩
          · have z4 : t = m.2.2.1 := t4.elim (fun y => absurd (hq.mp y) z) id
            exact Or.inr ⟨z, by omega, by rw [← z4]; exact t5.symm⟩
        · rintro (⟨z, t, z2, z3⟩ | ⟨z, z2, z3⟩)
          · exact ⟨t, by omega, by omega, by omega, Or.inl (hq.mpr z), z3⟩
          · exact ⟨m.2.2.1, by omega, by omega, by omega, Or.inr rfl, z3.symm⟩
      have := o j hj
      rw [key] at this
      unfold ovr
      by_cases z : j / 16 = l.getD m.2.1 0 ∧ passB l m (j % 16) = true
      · rw [if_pos z]; exact this.1 z
      · rw [if_neg z]; exact this.2 z
    · obtain ⟨_, t, z1, z2, _⟩ := z
      omega
  refine b_X1_countOver hL eT _ _ hA ?_
  rw [kind_pk b1, from_pk b1 b2 b5, to_pk b1 b2 b3 b5, hr, get_enc hsm (by omega) b2, pk_mul]
  have emn : (if nI m.2.2.1 < nI m.2.1 then nI m.2.2.1 else nI m.2.1) = nI (min m.2.1 m.2.2.1) := by
    by_cases z : m.2.2.1 < m.2.1
    · rw [if_pos (nI_lt z (by omega)), Nat.min_eq_right (by omega)]
    · rw [if_neg (nI_nlt (by omega) (by omega)), Nat.min_eq_left (by omega)]
  rw [emn, Nat.mul_comm _ 16]
  refine ⟨fun z => main 1 (by decide) ⟨fun _ => (nI_eq0 (by omega)).mp z, fun _ => rfl⟩, fun z => main 0 (by decide) ⟨fun y => by omega, fun y => absurd (by rw [y]; rfl) z⟩⟩
theorem s_make (hL : Lay T) (eT : h.2.2 = T) {a : Nat} (hA : IsX1 T a) {n : Nat} (h0 : 0 < n) (h16 : n ≤ 16) {c : List Nat} (hc : sm c) (hc16 : c.length ≤ 16) {w : Cd} (hp : pm n w.2.2.2.1) (hC : CC h a w) {m : Mv} (hm : mvN n m)
    (K : ∀ h' : Hp, h'.2.2 = h.2.2 → (∀ b j, b ≠ a + 1 → b ≠ a + 2 → (b = a → j ≠ 2) → gI h' b j = gI h b j) → (∀ b j, b ≠ a → gJ h' b j = gJ h b j) → CC h' a (tm1 c w m).1 → Q (some (.int (b2i (decide ((tm1 c w m).2 = 1))))) h') : Call (d + 3) MX1_make [.ref a, .int (nI (pk m)), .long (lN (enc c)), .int (nI n)] h Q := by
  obtain ⟨b1, b2, b3, b4, b5⟩ := mv_b hm h16
  have hl := hp.1
  have hsm := pm_sm hp h16
  have hx := sm_getD hsm m.2.1
  obtain ⟨p1, p2⟩ := made_enc (c := c) hsm (by omega) (by omega) hc hc16 (by rw [hl]; exact hm)
  rw [hl] at p1 p2
  obtain ⟨k1, k2, k3, k4, k5⟩ := hC
  refine b_X1_make hL eT _ _ _ _ hA ?_
  rw [k1, finds_pk hm h16 hsm (by omega) hc hc16, p2, from_pk b1 b2 b5]
  refine ⟨fun q => ⟨p1, ?_⟩, fun q => ⟨fun z => ?_, fun z => ⟨p1, ?_⟩⟩⟩
  · have q := (isTurn_pk b1).mp q
    have e : tm1 c w m = ((w.1, w.2.1, w.2.2.1, mk1 w.2.2.2.1 m, w.2.2.2.2.1, w.2.2.2.2.2), 0) := by unfold tm1; rw [if_pos q]
    have e1 : mv1 w.2.2.2.1 c m = mk1 w.2.2.2.1 m := by unfold mv1; rw [if_pos q]
    rw [e] at K
    rw [e1]
    exact K _ rfl (fun _ _ _ _ _ => rfl) (fun b j hb => gJ_sJ_ne hb) ⟨by rw [gJ_sJ_at, if_pos rfl], k2, k3, k4, k5⟩
  · have q : m.1 ≠ 2 := fun y => q ((isTurn_pk b1).mpr y)
    have e : tm1 c w m = ((w.1, w.2.1 + nI 1, inc (w.2.2.2.1.getD m.2.1 0) w.2.2.1, mk1 w.2.2.2.1 m, ovr w.2.2.2.1 m w.2.2.2.2.1, addR c (w.2.2.2.1.getD m.2.1 0) w.2.2.2.2.2), 1) := by unfold tm1; rw [if_neg q, if_pos z]
    have e1 : mv1 w.2.2.2.1 c m = mk1 w.2.2.2.1 m := by unfold mv1; rw [if_neg q, if_pos z]
    rw [e] at K
    refine s_countOver (d := d + 1) hL eT hA h16 hp k1 hm q (fun h1 e2 g o => ⟨rfl, e2T e2 eT, ?_⟩)
    have er : gJ h1 a 0 = lN (enc w.2.2.2.1) := by rw [gJ_e2 e2]; exact k1
    rw [er, get_enc hsm (by omega) b2, nI_clamp (by omega)]
    have ib : inB (nI (w.2.2.2.1.getD m.2.1 0)) 16 = true := (inB_iff (by omega)).mpr (by omega)
    rw [gJ_sI, gJ_sI, er, p2, e1]
    refine ⟨ib, ib, p1, K _ (show h1.2.2 = h.2.2 from e2T e2 rfl) (fun b j u v f => ?_) (fun b j hb => ?_) ⟨?_, ?_, ?_, fun s hs => ?_, fun j hj => ?_⟩⟩
    · rw [gI_sJ, gI_sI, if_neg (fun y => f y.1 y.2), gI_sI_ne u, g b j v]
    · rw [gJ_sJ_ne hb, gJ_sI, gJ_sI, gJ_e2 e2]
    · rw [gJ_sJ_at, if_pos rfl]
    · rw [gI_sJ, gI_sI_at, if_neg (by decide), gI_sI_ne (by omega), g _ _ (by omega)]; exact k2
    · rw [gI_sJ, gI_sI_at, if_pos rfl, gI_sI_ne (by omega), g _ _ (by omega), k3]
    · rw [gI_sJ, gI_sI_ne (by omega), gI_sI_at]
      unfold inc
      dsimp only
      by_cases y : s = w.2.2.2.1.getD m.2.1 0
      · rw [if_pos y, if_pos y, ← y, g _ _ (by omega), k4 s hs]
      · rw [if_neg y, if_neg y, g _ _ (by omega), k4 s hs]
    · rw [gI_sJ, gI_sI_ne (by omega), gI_sI_ne (by omega), o j hj]
      unfold ovr
      dsimp only
      rw [k5 j hj]
  · have q : m.1 ≠ 2 := fun y => q ((isTurn_pk b1).mpr y)
    have e : tm1 c w m = (w, 0) := by unfold tm1; rw [if_neg q, if_neg z]
    have e1 : mv1 w.2.2.2.1 c m = w.2.2.2.1 := by unfold mv1; rw [if_neg q, if_neg z]
    rw [e] at K
    rw [e1]
    exact K _ rfl (fun _ _ _ _ _ => rfl) (fun b j hb => gJ_sJ_ne hb) ⟨by rw [gJ_sJ_at, if_pos rfl], k2, k3, k4, k5⟩
-- the class's song and rows
def SG (h : Hp) (a : Nat) (s : List Mv) : Prop := s.length ≤ 200 ∧ gI h a 0 = nI s.length ∧ ∀ i, i < s.length → gI h (a + 1) i = nI (pk (gM s i))
def CR (h : Hp) (a : Nat) (R : List (Nat × Nat)) : Prop := R.length ≤ 300 ∧ gI h (a + 3) 3 = nI R.length ∧ ∀ i, i < R.length → ((gQ R i).1 < 16 ∧ (gQ R i).2 < 16) ∧ gI h (a + 6) i = nI ((gQ R i).1 + 16 * (gQ R i).2)
theorem or_shl4 {x y : Nat} (hx : x < 16) (hy : y < 16) : nI x ||| nI y <<< (nI 4 &&& 31) = nI (x + 16 * y) := by
  rw [pk_shlN (nI 4 &&& 31) 4 (by decide) (by omega), fa_or]
  congr 1
  rw [Nat.or_comm, Nat.mul_comm y, ← Nat.two_pow_add_eq_or_of_lt (by omega : x < 2 ^ 4)]
  omega
theorem addRow_eq {a x r : Nat} {c : List Nat} (hx : x < 16) (hc : sm c) (hc16 : c.length ≤ 16) (hd : gJ h a 2 = lN (enc c)) (hr : gI h (a + 3) 3 = nI r) (h300 : r ≤ 300) : p_X8_addRow a (nI x) h ∧ w_X8_addRow a (nI x) h = if r < 300 then sI (sI h (a + 6) r (nI (x + 16 * c.getD x 0))) (a + 3) 3 (nI (r + 1)) else h := by
  have hy := sm_getD hc x
  unfold p_X8_addRow w_X8_addRow
  rw [hr, hd, get_enc hc hc16 hx, or_shl4 hx hy, nI_clamp (by omega), gI_sI_ne (by omega), hr, nI_add]
  by_cases q : r < 300
  · rw [if_pos (nI_lt q (by omega)), if_pos q]
    exact ⟨⟨fun _ => ⟨(inB_iff (by omega)).mpr q, trivial⟩, fun _ => trivial⟩, rfl⟩
  · rw [if_neg (nI_nlt (by omega) (by omega)), if_neg q]
    exact ⟨⟨fun z => absurd z (nI_nlt (by omega) (by omega)), fun _ => trivial⟩, rfl⟩
def frI (h h' : Hp) : Prop := ∀ b j, b ≠ 16 → b ≠ 17 → b ≠ 18 → (b = 15 → j ≠ 1 ∧ j ≠ 2 ∧ j ≠ 3) → gI h' b j = gI h b j
def frJ (h h' : Hp) : Prop := ∀ b j, b ≠ 15 → gJ h' b j = gJ h b j
theorem frI.trans {h h1 h2 : Hp} (a : frI h h1) (b : frI h1 h2) : frI h h2 := fun x j u v w f => by rw [b x j u v w f, a x j u v w f]
theorem frJ.trans {h h1 h2 : Hp} (a : frJ h h1) (b : frJ h1 h2) : frJ h h2 := fun x j u => by rw [b x j u, a x j u]
theorem s_once95 (hL : Lay T) (eT : h.2.2 = T) {n : Nat} (h0 : 0 < n) (h16 : n ≤ 16) {c : List Nat} (hc : sm c) (hc16 : c.length ≤ 16) (hd : gJ h 12 2 = lN (enc c)) {w : Cd} (hp : pm n w.2.2.2.1) (hC : CC h 15 w) (hR : CR h 12 w.2.2.2.2.2) {m : Mv} (hm : mvN n m) {cnt i x1 : Nat}
    (K : ∀ h' : Hp, h'.2.2 = h.2.2 → frI h h' → frJ h h' → CC h' 15 (tm1 c w m).1 → CR h' 12 (tm1 c w m).1.2.2.2.2.2 → L_X8_singOnce_4 d 12 x1 (nI (cnt + (tm1 c w m).2)) (nI (i + 1)) h' Q) :
    CallZ (d + 3) MX1_make [.ref 15, .int (nI (pk m)), .long (lN (enc c)), .int (nI n)] h (fun r95 h95 => h95.2.2 = T ∧ (((r95 = true) → ((p_X8_addRow 12 (nI (w.2.2.2.1.getD m.2.1 0)) h95) ∧ (L_X8_singOnce_4 d 12 x1 (nI cnt + nI 1) (nI i + nI 1) (w_X8_addRow 12 (nI (w.2.2.2.1.getD m.2.1 0)) h95) Q))) ∧ (¬ (r95 = true) → (L_X8_singOnce_4 d 12 x1 (nI cnt) (nI i + nI 1) h95 Q)))) := by
  have hx := sm_getD (pm_sm hp h16) m.2.1
  refine s_make (d := d) hL eT (isX1_15 hL) h0 h16 hc hc16 hp hC hm (fun h1 e2 g gj k => ⟨_, rfl, by rw [e2]; exact eT, fun q => ?_, fun q => ?_⟩)
  · have q : (tm1 c w m).2 = 1 := of_decide_eq_true q
    have h2 : m.1 ≠ 2 := fun z => by unfold tm1 at q; rw [if_pos z] at q; exact absurd q (by show ¬ ((0 : Nat) = 1); decide)
    have hf : fits1 w.2.2.2.1 c m = true := by
      by_cases z : fits1 w.2.2.2.1 c m = true
      · exact z
      · unfold tm1 at q; rw [if_neg h2, if_neg z] at q; exact absurd q (by show ¬ ((0 : Nat) = 1); decide)
    have eR : (tm1 c w m).1.2.2.2.2.2 = addR c (w.2.2.2.1.getD m.2.1 0) w.2.2.2.2.2 := by unfold tm1; rw [if_neg h2, if_pos hf]
    rw [q, eR] at K
    have g3 : gI h1 (12 + 3) 3 = nI w.2.2.2.2.2.length := by rw [g _ _ (by decide) (by decide) (fun _ => by decide)]; exact hR.2.1
    obtain ⟨a1, a2⟩ := addRow_eq (a := 12) hx hc hc16 (by rw [gj _ _ (by decide)]; exact hd) g3 hR.1
    refine ⟨a1, ?_⟩
    rw [a2, nI_add, nI_add]
    have hy := sm_getD hc (w.2.2.2.1.getD m.2.1 0)
    generalize w.2.2.2.1.getD m.2.1 0 = x at *
    obtain ⟨r1, r2, r3⟩ := hR
    by_cases y : w.2.2.2.2.2.length < 300
    · rw [if_pos y]
      have eA : addR c x w.2.2.2.2.2 = w.2.2.2.2.2 ++ [(x, c.getD x 0)] := by unfold addR; rw [if_pos y]
      have eL : (w.2.2.2.2.2 ++ [(x, c.getD x 0)]).length = w.2.2.2.2.2.length + 1 := by rw [List.length_append]; rfl
      rw [eA] at K
      obtain ⟨k1, k2, k3, k4, k5⟩ := k
      refine K _ e2 (fun b j u v z f => ?_) gj ⟨k1, ?_, ?_, fun s hs => ?_, fun j hj => ?_⟩ ⟨?_, ?_, fun i' hi' => ?_⟩
      · rw [gI_sI, if_neg (fun t => (f t.1).2.2 t.2), gI_sI_ne z]
        exact g b j u v (fun t => (f t).2.1)
      · rw [gI_sI_at, if_neg (by decide), gI_sI_ne (by decide)]; exact k2
      · rw [gI_sI_at, if_neg (by decide), gI_sI_ne (by decide)]; exact k3
      · rw [gI_sI_ne (by decide), gI_sI_ne (by decide)]; exact k4 s hs
      · rw [gI_sI_ne (by decide), gI_sI_ne (by decide)]; exact k5 j hj
      · rw [eL]; omega
      · rw [gI_sI_at, if_pos rfl, eL]
      · rw [eL] at hi'
        have t3 := gQ_app (R := w.2.2.2.2.2) (x := (x, c.getD x 0)) (i := i')
        rw [gI_sI_ne (by decide), gI_sI_at]
        by_cases v : i' = w.2.2.2.2.2.length
        · rw [if_neg (by omega), if_pos v] at t3
          rw [if_pos v, t3]
          exact ⟨⟨hx, hy⟩, rfl⟩
        · rw [if_pos (by omega)] at t3
          rw [if_neg v, t3, g _ _ (by decide) (by decide) (fun z => absurd z (by decide))]
          exact r3 i' (by omega)
    · rw [if_neg y]
      have eA : addR c x w.2.2.2.2.2 = w.2.2.2.2.2 := by unfold addR; rw [if_neg y]
      rw [eA] at K
      refine K _ e2 (fun b j u v z f => g b j u v (fun t => (f t).2.1)) gj k ⟨r1, g3, fun i' hi' => ?_⟩
      rw [g _ _ (by decide) (by decide) (fun z => absurd z (by decide))]
      exact r3 i' hi'
  · have q : (tm1 c w m).2 = 0 := by
      have := tm1_cnt c w m
      have : (tm1 c w m).2 ≠ 1 := fun z => q (decide_eq_true z)
      omega
    have eR : (tm1 c w m).1.2.2.2.2.2 = w.2.2.2.2.2 := by
      unfold tm1 at q ⊢
      by_cases h2 : m.1 = 2
      · rw [if_pos h2]
      · rw [if_neg h2] at q ⊢
        by_cases z : fits1 w.2.2.2.1 c m = true
        · rw [if_pos z] at q; exact absurd q (by show ¬ ((1 : Nat) = 0); decide)
        · rw [if_neg z]
    rw [q, eR, Nat.add_zero] at K
    rw [nI_add]
    obtain ⟨r1, r2, r3⟩ := hR
    refine K _ e2 (fun b j u v z f => g b j u v (fun t => (f t).2.1)) gj k ⟨r1, by rw [g _ _ (by decide) (by decide) (fun _ => by decide)]; exact r2, fun i' hi' => ?_⟩
    rw [g _ _ (by decide) (by decide) (fun z => absurd z (by decide))]
    exact r3 i' hi'
theorem drawc_eq (h : Hp) (a : Nat) : p_X1_draw a (nI 1000) h ∧ r_X1_draw a (nI 1000) h = slp (drw (gI h a 1)) ∧ w_X1_draw a (nI 1000) h = sI h a 1 (drw (gI h a 1)) := by
  have q : (0 : Int32) < nI 1000 := by decide
  unfold p_X1_draw r_X1_draw w_X1_draw slp
  rw [if_pos q, if_pos q, drw_eq, gI_sI_at, if_pos rfl]
  exact ⟨⟨fun _ => ⟨fun z => by have := (nI_eq0 (by decide)).mp z; omega, trivial⟩, fun _ => trivial⟩, rfl, rfl⟩
theorem s_singOnce (hL : Lay T) (eT : h.2.2 = T) {n : Nat} (hn : gI h 12 0 = nI n) (h0 : 0 < n) (h16 : n ≤ 16) {c : List Nat} (hc : sm c) (hc16 : c.length ≤ 16) (hd : gJ h 12 2 = lN (enc c)) {sl : Nat} (hsl : gI h 12 1 = nI sl) (h1000 : sl ≤ 1000) {w : Cd} (hp : pm n w.2.2.2.1) (hC : CC h 15 w) (hR : CR h 12 w.2.2.2.2.2) {k : Nat} (hk : k < 4) {s : List Mv} (hG : SG h (20 + 2 * k) s) (hN : sgN n s)
    (K : ∀ h' : Hp, h'.2.2 = h.2.2 → frI h h' → frJ h h' → CC h' 15 (trS sl c w s).1 → CR h' 12 (trS sl c w s).1.2.2.2.2.2 → Q (some (.int (nI (trS sl c w s).2))) h') : Call (d + 4) MX8_singOnce [.ref 12, .ref (20 + 2 * k)] h Q := by
  have h200 := hG.1
  have hI7 := isX7_song hL hk
  refine b_X8_singOnce hL eT _ _ (isX8_12 hL) hI7 ?_
  refine upto s.length (fun i h1 => h1.2.2 = h.2.2 ∧ frI h h1 ∧ frJ h h1 ∧ CC h1 15 (trS sl c w (s.take i)).1 ∧ CR h1 12 (trS sl c w (s.take i)).1.2.2.2.2.2) (fun i h1 => L_X8_singOnce_4 d 12 (20 + 2 * k) (nI (trS sl c w (s.take i)).2) (nI i) h1 Q) ?_ ?_ 0 h (Nat.zero_le _) ⟨rfl, fun _ _ _ _ _ _ => rfl, fun _ _ _ => rfl, hC, hR⟩
  · rintro i h1 hi ⟨e2, g, gj, m, r⟩ ih
    have eT1 : h1.2.2 = T := e2.trans eT
    have f0 : gI h1 (20 + 2 * k) 0 = nI s.length := by rw [g _ _ (by omega) (by omega) (by omega) (by omega)]; exact hG.2.1
    have f1 : gI h1 (20 + 2 * k + 1) i = nI (pk (gM s i)) := by rw [g _ _ (by omega) (by omega) (by omega) (by omega)]; exact hG.2.2 i hi
    have f2 : gI h1 12 0 = nI n := by rw [g _ _ (by decide) (by decide) (by decide) (by decide)]; exact hn
    have f3 : gI h1 12 1 = nI sl := by rw [g _ _ (by decide) (by decide) (by decide) (by decide)]; exact hsl
    have f4 : gJ h1 12 2 = lN (enc c) := by rw [gj _ _ (by decide)]; exact hd
    have hpi := pm_trS (sl := sl) (c := c) hp h0 hN i (by omega)
    have hm := hN _ (gM_mem hi)
    obtain ⟨b1, b2, b3, b4, b5⟩ := mv_b hm h16
    obtain ⟨d1, d2, d3⟩ := drawc_eq h1 15
    have hsm := pm_sm hpi h16
    have hl := hpi.1
    rw [trS_succ hi] at ih
    generalize trS sl c w (s.take i) = p at *
    refine b_X8_singOnce_4 hL eT1 _ _ _ _ (isX8_12 hL) hI7 ?_
    have er : gJ h1 15 0 = lN (enc p.1.2.2.2.1) := m.1
    rw [show (12 : Nat) + 3 = 15 from rfl, nI_clamp (by omega), f0, f1, f2, f3, f4, d2, d3, gI_sI_ne (by decide), gI_sI_ne (by decide), gJ_sI, f2, f3, f4, er, from_pk b1 b2 b5, get_enc hsm (by omega) b2, m.2.1]
    refine ⟨fun _ => ⟨(inB_iff (by omega)).mpr (by omega), fun q => ?_, fun q => ⟨fun z => ?_, fun z => ?_⟩⟩, fun q => absurd (nI_lt hi (by omega)) q⟩
    · have q : (gM s i).1 = 2 := (isTurn_pk b1).mp q
      have et : tr1 sl c p (gM s i) = ((tm1 c p.1 (gM s i)).1, p.2 + (tm1 c p.1 (gM s i)).2) := by
        unfold tr1; rw [if_neg (fun z => z.1 q)]
      rw [et] at ih
      exact s_once95 hL eT1 h0 h16 hc hc16 f4 hpi m r hm (fun h2 e3 g3 j3 m3 r3 => ih h2 ⟨e3.trans e2, g.trans g3, gj.trans j3, m3, r3⟩)
    · have q : (gM s i).1 ≠ 2 := fun v => q ((isTurn_pk b1).mpr v)
      have z : 0 < sl := (nI_gt0 (by omega)).mp z
      have m' : CC (sI h1 15 1 (drw p.1.1)) 15 (drw p.1.1, p.1.2) := by
        obtain ⟨m1, m2, m3, m4, m5⟩ := m
        exact ⟨m1, by rw [gI_sI_at, if_pos rfl], by rw [gI_sI_at, if_neg (by omega)]; exact m3, fun s hs => by rw [gI_sI_ne (by decide)]; exact m4 s hs, fun j hj => by rw [gI_sI_ne (by decide)]; exact m5 j hj⟩
      have r' : CR (sI h1 15 1 (drw p.1.1)) 12 p.1.2.2.2.2.2 := by
        obtain ⟨r1, r2, r3⟩ := r
        refine ⟨r1, by rw [gI_sI_at, if_neg (by omega)]; exact r2, fun i hi => ?_⟩
        rw [gI_sI_ne (by decide)]
        exact r3 i hi
      have g' : frI h1 (sI h1 15 1 (drw p.1.1)) := fun x j u v y f => by
        rw [gI_sI, if_neg (fun y => (f y.1).1 y.2)]
      have j' : frJ h1 (sI h1 15 1 (drw p.1.1)) := fun _ _ _ => rfl
      refine ⟨d1, fun v => ?_, fun v => ?_⟩
      · have et : tr1 sl c p (gM s i) = ((drw p.1.1, p.1.2), p.2) := by
          unfold tr1; rw [if_pos ⟨q, z⟩, if_pos v]
        rw [et] at ih
        rw [nI_add]
        exact ih _ ⟨e2, g.trans g', gj.trans j', m', r'⟩
      · have et : tr1 sl c p (gM s i) = ((tm1 c (drw p.1.1, p.1.2) (gM s i)).1, p.2 + (tm1 c (drw p.1.1, p.1.2) (gM s i)).2) := by
          unfold tr1; rw [if_pos ⟨q, z⟩, if_neg v]
        rw [et] at ih
        exact s_once95 (h := sI h1 15 1 (drw p.1.1)) (w := (drw p.1.1, p.1.2)) hL eT1 h0 h16 hc hc16 f4 hpi m' r' hm (fun h2 e3 g3 j3 m3 r3 => ih h2 ⟨e3.trans e2, (g.trans g').trans g3, (gj.trans j').trans j3, m3, r3⟩)
    · have z : ¬ 0 < sl := fun v => z ((nI_gt0 (by omega)).mpr v)
      have et : tr1 sl c p (gM s i) = ((tm1 c p.1 (gM s i)).1, p.2 + (tm1 c p.1 (gM s i)).2) := by
        unfold tr1; rw [if_neg (fun v => z v.2)]
      rw [et] at ih
      exact s_once95 hL eT1 h0 h16 hc hc16 f4 hpi m r hm (fun h2 e3 g3 j3 m3 r3 => ih h2 ⟨e3.trans e2, g.trans g3, gj.trans j3, m3, r3⟩)
  · rintro h1 ⟨e2, g, gj, m, r⟩
    rw [List.take_length] at m r ⊢
    refine b_X8_singOnce_4 hL (e2.trans eT) _ _ _ _ (isX8_12 hL) hI7 ?_
    rw [g (20 + 2 * k) 0 (by omega) (by omega) (by omega) (by omega), hG.2.1]
    exact ⟨fun q => absurd q (nI_nlt (Nat.le_refl _) (by omega)), fun _ => K h1 e2 g gj m r⟩
end Cord
