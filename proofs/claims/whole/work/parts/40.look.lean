section Look
variable {T : HT} {h : Hp} {G : Hp → Prop} {n sl : Nat} {c q : List Nat} {nm : Nat → Int32} {sg : Nat → List Mv} {w : Cd}
theorem isIn_nat {v a b : Nat} (hv : v < 2 ^ 31) (ha : a < 2 ^ 31) (hb : b < 2 ^ 31) : (r_X11_isIn (nI v) (nI a) (nI b) = true) ↔ a ≤ v ∧ v ≤ b := by
  unfold r_X11_isIn
  by_cases z : v < a
  · rw [if_pos (nI_lt z ha)]
    exact ⟨fun k => absurd k (by decide), fun k => by omega⟩
  · rw [if_neg (nI_nlt (by omega) hv)]
    by_cases u : b < v
    · rw [if_pos (nI_lt u hv)]
      exact ⟨fun k => absurd k (by decide), fun k => by omega⟩
    · rw [if_neg (nI_nlt (by omega) hb)]
      exact ⟨fun _ => by omega, fun _ => rfl⟩
theorem isIn_neg {y : Int32} {a : Nat} (b : Int32) (ha : a < 2 ^ 31) (y0 : y < 0) : ¬ r_X11_isIn y (nI a) b = true := by
  unfold r_X11_isIn
  have : y < nI a := by
    rw [fa_lt, nI_toInt ha]
    rw [fa_lt] at y0
    have : (0 : Int32).toInt = 0 := by decide
    omega
  rw [if_pos this]
  decide
theorem op_look (hL : Lay h.2.2) (v : VS n sl c q nm sg w) (rc : RC h 12 n sl c q nm sg w) (rm : RM h n sl c q nm sg w) (hh : gI h 28 0 = gI h 59 3) (y : Int32) (g : G h) : Op MX10_look MX11_look [.int y] h G := by
  obtain ⟨⟨v1, v2⟩, v3, v4, v5, v6, v7, v8⟩ := v
  obtain ⟨c1, c2, c3, c4, c5, c6, c7, c8⟩ := rc
  obtain ⟨m1, m2, m3, m4, m5, m6, m7, m8⟩ := rm
  obtain ⟨k1, k2, k3, k4, k5, k6, k7⟩ := m7
  obtain ⟨l1, l2, l3, l4, l5⟩ := c7
  have c8 : gI h 15 3 = nI w.2.2.2.2.2.length := c8.2.1
  have l2 : gI h 15 1 = w.1 := l2
  have l3 : gI h 15 2 = w.2.1 := l3
  by_cases y0 : y < 0
  · have lt : ∀ a : Nat, a < 2 ^ 31 → y < nI a := fun a ha => by
      rw [fa_lt, nI_toInt ha]
      rw [fa_lt] at y0
      have : (0 : Int32).toInt = 0 := by decide
      omega
    have yi : y.toInt < 0 := by rw [fa_lt] at y0; exact y0
    have ne : ∀ a : Nat, a < 2 ^ 31 → y ≠ nI a := fun a ha e => by
      rw [e, nI_toInt ha] at yi; omega
    refine b_X10_look (d := 38) hL rfl _ ⟨fun _ => ?_, fun k => absurd (lt 10 (by decide)) k⟩
    refine b_X10_look_28 hL rfl _ ⟨fun _ => ?_, fun k => absurd (lt 20 (by decide)) k⟩
    refine b_X10_look_63 hL rfl _ ⟨fun _ => ?_, fun k => absurd (lt 40 (by decide)) k⟩
    refine b_X10_look_88 hL rfl _ ⟨fun k => absurd k (ne _ (by decide)), fun k => absurd k (ne _ (by decide)), fun k => absurd k (ne _ (by decide)), fun k => absurd k (ne _ (by decide)), fun k => absurd k (ne _ (by decide)), fun k => absurd k (ne _ (by decide)), fun _ => ⟨_, rfl, ?_⟩⟩
    exact b_X11_look (d := 38) hL rfl _ ⟨fun k => absurd k (ne _ (by decide)), fun k => absurd k (ne _ (by decide)), fun k => absurd k (ne _ (by decide)), fun k => absurd k (ne _ (by decide)), fun k => absurd k (ne _ (by decide)), fun k => absurd k (ne _ (by decide)), fun _ => ⟨fun k => absurd k (isIn_neg _ (by decide) y0), fun _ => ⟨fun k => absurd k (isIn_neg _ (by decide) y0), fun _ => ⟨fun k => absurd k (isIn_neg _ (by decide) y0), fun _ => ⟨rfl, g⟩⟩⟩⟩⟩
  · obtain ⟨t, ht, e⟩ := nI_of y0
    subst e
    have inj : ∀ j, j < 10 → nI t = nI j → t = j := fun j hj e => nI_inj ht (by omega) e
    have i1 := isIn_nat (v := t) (a := 10) (b := 13) ht (by decide) (by decide)
    have i2 := isIn_nat (v := t) (a := 20) (b := 19 + n) ht (by decide) (by omega)
    have i3 := isIn_nat (v := t) (a := 40) (b := 69) ht (by decide) (by decide)
    have M : ∀ r : Int32, (t = 0 → r = nI n) → (t = 1 → r = nI sl) → (t = 2 → r = nI w.2.2.2.2.2.length) → (t = 3 → r = w.2.1) → (t = 4 → r = w.1) → (t = 5 → r = gI h 59 3) → (∀ k, k < 4 → t = 10 + k → r = nI (sg k).length) → (∀ s, s < n → t = 20 + s → r = nI (q.getD s 0)) → (∀ i, i < 30 → t = 40 + i → r = nm i) → (5 < t → ¬ (10 ≤ t ∧ t ≤ 13) → ¬ (20 ≤ t ∧ t ≤ 19 + n) → ¬ (40 ≤ t ∧ t ≤ 69) → r = -1) → Call 39 MX11_look [.ref 59, .int (nI t)] h (fun v' h2 => v' = some (.int r) ∧ G h2) := by
      intro r r0 r1 r2 r3 r4 r5 r6 r7 r8 r9
      refine b_X11_look (d := 38) hL rfl _ ⟨fun k => ⟨?_, g⟩, fun k => ⟨?_, g⟩, fun k => ⟨?_, g⟩, fun k => ⟨?_, g⟩, fun k => ⟨?_, g⟩, fun k => ⟨?_, g⟩, fun k => ?_⟩
      · rw [r0 (inj _ (by decide) k), m1]
      · rw [r1 (inj _ (by decide) k), m2]
      · rw [r2 (inj _ (by decide) k), k6]
      · rw [r3 (inj _ (by decide) k), k2]
      · rw [r4 (inj _ (by decide) k), k1]
      · rw [r5 (inj _ (by decide) k)]
      · rw [nI_toInt ht] at k
        have k : 5 < t := by omega
        rw [m1, nI_add 19 n]
        refine ⟨fun u => ?_, fun u => ⟨fun u2 => ?_, fun u2 => ⟨fun u3 => ?_, fun u3 => ?_⟩⟩⟩
        · have u := i1.mp u
          rw [nI_add, pk_sub (by omega), nI_clamp (by omega)]
          refine ⟨(inB_iff (by omega)).mpr (by omega), ?_, g⟩
          rw [r6 (t - 10) (by omega) (by omega), show 975 + t - 10 = 975 + (t - 10) by omega, (m6 (t - 10) (by omega)).2.1]
        · have u := i2.mp u2
          rw [nI_add, pk_sub (by omega), nI_clamp (by omega)]
          refine ⟨(inB_iff (by omega)).mpr (by omega), ?_, g⟩
          rw [r7 (t - 20) (by omega) (by omega), show 920 + t - 20 = 920 + (t - 20) by omega, m4 (t - 20) (by omega)]
        · have u := i3.mp u3
          rw [nI_add, pk_sub (by omega), nI_clamp (by omega)]
          refine ⟨(inB_iff (by omega)).mpr (by omega), ?_, g⟩
          rw [r8 (t - 40) (by omega) (by omega), show 940 + t - 40 = 940 + (t - 40) by omega, m5 (t - 40) (by omega)]
        · exact ⟨by rw [r9 k (fun z => u (i1.mpr z)) (fun z => u2 (i2.mpr z)) (fun z => u3 (i3.mpr z))], g⟩
    -- the class's last part
    have S : ¬ (10 ≤ t ∧ t ≤ 13) → ¬ (20 ≤ t ∧ t ≤ 19 + n) → ¬ (40 ≤ t ∧ t ≤ 69) → L_X10_look_88 38 (nI t) h (fun v h1 => ∃ r : Int32, v = some (.int r) ∧ Call 39 MX11_look (.ref 59 :: [.int (nI t)]) h1 (fun v' h2 => v' = some (.int r) ∧ G h2)) := by
      intro n1 n2 n3
      refine b_X10_look_88 hL rfl _ ⟨fun k => ⟨_, rfl, ?_⟩, fun k => ⟨_, rfl, ?_⟩, fun k => ⟨_, rfl, ?_⟩, fun k => ⟨_, rfl, ?_⟩, fun k => ⟨_, rfl, ?_⟩, fun k => ⟨_, rfl, ?_⟩, fun k => ⟨_, rfl, ?_⟩⟩
      · have := inj _ (by decide) k
        exact M _ (fun _ => c1) (fun u => by omega) (fun u => by omega) (fun u => by omega) (fun u => by omega) (fun u => by omega) (fun _ _ u => by omega) (fun _ _ u => by omega) (fun _ _ u => by omega) (fun u => by omega)
      · have := inj _ (by decide) k
        exact M _ (fun u => by omega) (fun _ => c2) (fun u => by omega) (fun u => by omega) (fun u => by omega) (fun u => by omega) (fun _ _ u => by omega) (fun _ _ u => by omega) (fun _ _ u => by omega) (fun u => by omega)
      · have := inj _ (by decide) k
        exact M _ (fun u => by omega) (fun u => by omega) (fun _ => c8) (fun u => by omega) (fun u => by omega) (fun u => by omega) (fun _ _ u => by omega) (fun _ _ u => by omega) (fun _ _ u => by omega) (fun u => by omega)
      · have := inj _ (by decide) k
        exact M _ (fun u => by omega) (fun u => by omega) (fun u => by omega) (fun _ => l3) (fun u => by omega) (fun u => by omega) (fun _ _ u => by omega) (fun _ _ u => by omega) (fun _ _ u => by omega) (fun u => by omega)
      · have := inj _ (by decide) k
        exact M _ (fun u => by omega) (fun u => by omega) (fun u => by omega) (fun u => by omega) (fun _ => l2) (fun u => by omega) (fun _ _ u => by omega) (fun _ _ u => by omega) (fun _ _ u => by omega) (fun u => by omega)
      · have := inj _ (by decide) k
        exact M _ (fun u => by omega) (fun u => by omega) (fun u => by omega) (fun u => by omega) (fun u => by omega) (fun _ => hh) (fun _ _ u => by omega) (fun _ _ u => by omega) (fun _ _ u => by omega) (fun u => by omega)
      · rw [nI_toInt ht] at k
        exact M _ (fun u => by omega) (fun u => by omega) (fun u => by omega) (fun u => by omega) (fun u => by omega) (fun u => by omega) (fun _ _ u => by omega) (fun _ _ u => by omega) (fun _ _ u => by omega) (fun _ _ _ _ => rfl)
    have S2 : ¬ (10 ≤ t ∧ t ≤ 13) → ¬ (20 ≤ t ∧ t ≤ 19 + n) → L_X10_look_63 38 (nI t) h (fun v h1 => ∃ r : Int32, v = some (.int r) ∧ Call 39 MX11_look (.ref 59 :: [.int (nI t)]) h1 (fun v' h2 => v' = some (.int r) ∧ G h2)) := by
      intro n1 n2
      refine b_X10_look_63 hL rfl _ ⟨fun k => S n1 n2 ?_, fun k => ⟨fun k2 => ?_, fun k2 => S n1 n2 ?_⟩⟩
      · have := (nI_ltI ht (by decide)).mp k; omega
      · have k2 := (nI_ltI ht (by decide)).mp k2
        have k : 40 ≤ t := Nat.le_of_not_lt (fun u => k (nI_lt u (by decide)))
        rw [pk_sub k, nI_clamp (by omega)]
        refine ⟨(inB_iff (by omega)).mpr (by omega), _, rfl, ?_⟩
        exact M _ (fun u => by omega) (fun u => by omega) (fun u => by omega) (fun u => by omega) (fun u => by omega) (fun u => by omega) (fun _ _ u => by omega) (fun s hs u => by omega) (fun i hi u => by rw [show t - 40 = i by omega]; exact c5 i hi) (fun u _ _ u2 => by omega)
      · have : ¬ t < 70 := fun u => k2 (nI_lt u (by decide))
        omega
    have S1 : ¬ (10 ≤ t ∧ t ≤ 13) → L_X10_look_28 38 (nI t) h (fun v h1 => ∃ r : Int32, v = some (.int r) ∧ Call 39 MX11_look (.ref 59 :: [.int (nI t)]) h1 (fun v' h2 => v' = some (.int r) ∧ G h2)) := by
      intro n1
      refine b_X10_look_28 hL rfl _ ?_
      rw [c1, nI_add]
      refine ⟨fun k => S2 n1 ?_, fun k => ⟨fun k2 => ?_, fun k2 => S2 n1 ?_⟩⟩
      · have := (nI_ltI ht (by decide)).mp k; omega
      · have k2 := (nI_ltI ht (by omega)).mp k2
        have k : 20 ≤ t := Nat.le_of_not_lt (fun u => k (nI_lt u (by decide)))
        rw [pk_sub k, c4, get_enc (VL_sm v5) (by have := v5.1; omega) (by omega)]
        refine ⟨_, rfl, ?_⟩
        exact M _ (fun u => by omega) (fun u => by omega) (fun u => by omega) (fun u => by omega) (fun u => by omega) (fun u => by omega) (fun _ _ u => by omega) (fun s hs u => by rw [show t - 20 = s by omega]) (fun i hi u => by omega) (fun u _ u2 => by omega)
      · have : ¬ t < 20 + n := fun u => k2 (nI_lt u (by omega))
        omega
    refine b_X10_look (d := 38) hL rfl _ ⟨fun k => S1 ?_, fun k => ⟨fun k2 => ⟨t - 10, ?_, ?_, _, rfl, ?_⟩, fun k2 => S1 ?_⟩⟩
    · have := (nI_ltI ht (by decide)).mp k; omega
    · have k : 10 ≤ t := Nat.le_of_not_lt (fun u => k (nI_lt u (by decide)))
      rw [pk_sub k]
    · have k2 := (nI_ltI ht (by decide)).mp k2
      omega
    · have k2 := (nI_ltI ht (by decide)).mp k2
      have k : 10 ≤ t := Nat.le_of_not_lt (fun u => k (nI_lt u (by decide)))
      exact M _ (fun u => by omega) (fun u => by omega) (fun u => by omega) (fun u => by omega) (fun u => by omega) (fun u => by omega) (fun k3 hk u => by rw [show t - 10 = k3 by omega]; exact (c6 k3 hk).2.1) (fun s hs u => by omega) (fun i hi u => by omega) (fun u u2 => by omega)
    · have : ¬ t < 14 := fun u => k2 (nI_lt u (by decide))
      omega
end Look
