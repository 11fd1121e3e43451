-- what class and model hold in common
def VW (n : Nat) (w : Cd) : Prop := pm n w.2.2.2.1 ∧ w.2.2.2.2.2.length ≤ 300 ∧ (∀ i, i < w.2.2.2.2.2.length → (gQ w.2.2.2.2.2 i).1 < 16 ∧ (gQ w.2.2.2.2.2 i).2 < 16) ∧ ∀ x, x < 16 → w.2.2.2.2.1 (16 * x + x) = 0
def VL (n : Nat) (c : List Nat) : Prop := c.length = 16 ∧ (∀ s, c.getD s 0 < 10) ∧ ∀ s, n ≤ s → c.getD s 0 = 0
def VS (n sl : Nat) (c q : List Nat) (nm : Nat → Int32) (sg : Nat → List Mv) (w : Cd) : Prop := (4 ≤ n ∧ n ≤ 16) ∧ sl ≤ 1000 ∧ VL n c ∧ VL n q ∧ (∀ i, nm i = -1 ∨ ∃ v, v < 10 ∧ nm i = nI v) ∧ (∀ k, k < 4 → sgN n (sg k)) ∧ VW n w
def RC (h : Hp) (a n sl : Nat) (c q : List Nat) (nm : Nat → Int32) (sg : Nat → List Mv) (w : Cd) : Prop := gI h a 0 = nI n ∧ gI h a 1 = nI sl ∧ gJ h a 2 = lN (enc c) ∧ gJ h a 3 = lN (enc q) ∧ (∀ i, i < 30 → gI h (a + 1) i = nm i) ∧ (∀ k, k < 4 → SG h (a + 8 + 2 * k) (sg k)) ∧ CC h (a + 3) w ∧ CR h a w.2.2.2.2.2
def RM (h : Hp) (n sl : Nat) (c q : List Nat) (nm : Nat → Int32) (sg : Nat → List Mv) (w : Cd) : Prop := gI h 60 0 = nI n ∧ gI h 60 1 = nI sl ∧ MC h 60 c ∧ (∀ s, s < 16 → gI h 60 (920 + s) = nI (q.getD s 0)) ∧ (∀ i, i < 30 → gI h 60 (940 + i) = nm i) ∧ (∀ k, k < 4 → MG h 60 k (sg k)) ∧ CdM h w ∧ MR h w.2.2.2.1
theorem VL_sm {n : Nat} {c : List Nat} (v : VL n c) : sm c := by
  intro x hx
  obtain ⟨i, hi, e⟩ := List.getElem_of_mem hx
  have := v.2.1 i
  rw [List.getD_eq_getElem?_getD, List.getElem?_eq_getElem hi, Option.getD_some, e] at this
  omega
theorem isIn_iff {x : Int32} {m : Nat} (hm : m < 2 ^ 31) : (r_X11_isIn x (nI 0) (nI m) = true) ↔ ∃ v, v ≤ m ∧ x = nI v := by
  unfold r_X11_isIn
  rw [nI_0]
  constructor
  · intro q
    by_cases z : x < 0
    · rw [if_pos z] at q; exact absurd q (by decide)
    · rw [if_neg z] at q
      obtain ⟨v, hv, e⟩ := nI_of z
      subst e
      by_cases y : nI m < nI v
      · rw [if_pos y] at q; exact absurd q (by decide)
      · exact ⟨v, Nat.le_of_not_lt (fun u => y (nI_lt u hv)), rfl⟩
  · rintro ⟨v, hv, e⟩
    subst e
    rw [if_neg (nI_pos (by omega)), if_neg (nI_nlt hv hm)]
theorem isSlotM_iff {h : Hp} {x : Int32} {n : Nat} (hn : gI h 60 0 = nI n) (h0 : 0 < n) (h16 : n ≤ 16) : (r_X11_isSlot x h = true) ↔ ∃ v, v < n ∧ x = nI v := by
  unfold r_X11_isSlot
  rw [hn, pk_sub (by omega), isIn_iff (by omega)]
  exact ⟨fun ⟨v, a, b⟩ => ⟨v, by omega, b⟩, fun ⟨v, a, b⟩ => ⟨v, by omega, b⟩⟩
theorem lt_iff2 {x : Int32} {n : Nat} (hn : n < 2 ^ 31) : ((if x < 0 then false else (if x < nI n then true else false)) = true) ↔ ∃ v, v < n ∧ x = nI v := by
  constructor
  · intro q
    by_cases z : x < 0
    · rw [if_pos z] at q; exact absurd q (by decide)
    · rw [if_neg z] at q
      obtain ⟨v, hv, e⟩ := nI_of z
      subst e
      by_cases y : nI v < nI n
      · exact ⟨v, (nI_ltI hv hn).mp y, rfl⟩
      · rw [if_neg y] at q; exact absurd q (by decide)
  · rintro ⟨v, hv, e⟩
    subst e
    rw [if_neg (nI_pos (by omega)), if_pos (nI_lt hv hn)]
theorem isSlotC_iff {h : Hp} {x : Int32} {n : Nat} (hn : gI h 12 0 = nI n) (h16 : n ≤ 16) : (r_X10_isSlot x h = true) ↔ ∃ v, v < n ∧ x = nI v := by
  unfold r_X10_isSlot
  rw [hn]
  exact lt_iff2 (by omega)
theorem isColC_iff {x : Int32} : (r_X10_isColour x = true) ↔ ∃ v, v < 10 ∧ x = nI v := lt_iff2 (by decide)
theorem isSongC_iff {x : Int32} : (r_X10_isSong x = true) ↔ ∃ v, v < 4 ∧ x = nI v := lt_iff2 (by decide)
theorem isSongM_iff {x : Int32} : (r_X11_isSong x = true) ↔ ∃ v, v < 4 ∧ x = nI v := by
  unfold r_X11_isSong
  rw [isIn_iff (by decide)]
  exact ⟨fun ⟨v, a, b⟩ => ⟨v, by omega, b⟩, fun ⟨v, a, b⟩ => ⟨v, by omega, b⟩⟩
theorem cls_in {α : Type} (y : Int32) (m : Nat) (a b : α) : (if y < 0 then b else (if nI m < y then b else a)) = if r_X11_isIn y (nI 0) (nI m) = true then a else b := by
  unfold r_X11_isIn
  rw [nI_0]
  by_cases z : y < 0
  · rw [if_pos z, if_pos z, if_neg (by decide)]
  · rw [if_neg z, if_neg z]
    by_cases u : nI m < y
    · rw [if_pos u, if_pos u, if_neg (by decide)]
    · rw [if_neg u, if_neg u, if_pos rfl]
/-- one call on both sides, with one answer -/
def Op (c m : Mth) (as : List Value) (h : Hp) (G : Hp → Prop) : Prop := Call 39 c (.ref 1 :: as) h (fun v h1 => ∃ r : Int32, v = some (.int r) ∧ Call 39 m (.ref 59 :: as) h1 (fun v' h2 => v' = some (.int r) ∧ G h2))
section Ask
variable {T : HT} {h : Hp} {G : Hp → Prop} {n sl : Nat} {c q : List Nat} {nm : Nat → Int32} {sg : Nat → List Mv} {w : Cd}
theorem op_fault (hL : Lay h.2.2) (f0 : gI h 2 0 = gI h 59 15) (f1 : gI h 2 1 = gI h 59 16) (x : Int32) (g : G h) : Op MX10_fault MX11_fault [.int x] h G := by
  refine c_X10_fault (d := 39) hL rfl x ⟨_, rfl, c_X11_fault (d := 39) hL rfl x ⟨?_, g⟩⟩
  unfold r_X10_fault r_X11_fault
  rw [f0, f1]
theorem op_at (hL : Lay h.2.2) (v : VS n sl c q nm sg w) (rc : RC h 12 n sl c q nm sg w) (rm : RM h n sl c q nm sg w) (x y : Int32) (g : G h) : Op MX10_at MX11_at [.int x, .int y] h G := by
  obtain ⟨⟨v1, v2⟩, v3, v4, v5, v6, v7, v8⟩ := v
  have c1 := rc.1
  have c2 : gJ h 12 2 = lN (enc c) := rc.2.2.1
  have c3 : gJ h 15 0 = lN (enc w.2.2.2.1) := rc.2.2.2.2.2.2.1.1
  have m1 := rm.1
  have m2 := rm.2.2.1
  have m3 := rm.2.2.2.2.2.2.2
  have sC := isSlotC_iff (x := x) c1 v2
  have sM := isSlotM_iff (x := x) m1 (by omega) v2
  have iM := isIn_iff (x := y) (m := 1) (by decide)
  have hsm := pm_sm v8.1 v2
  have hl := v8.1.1
  by_cases z : ∃ v, v < n ∧ x = nI v
  · obtain ⟨s, hs, e⟩ := id z
    subst e
    have hx := sm_getD hsm s
    have ez : gI h 60 (42 + s) = nI (w.2.2.2.1.getD s 0) := m3 s (by omega)
    have ey : (nI 42 + nI s).toNatClampNeg = 42 + s := by rw [nI_add, nI_clamp (by omega)]
    have ex : (nI 10 + nI (w.2.2.2.1.getD s 0)).toNatClampNeg = 10 + w.2.2.2.1.getD s 0 := by rw [nI_add, nI_clamp (by omega)]
    refine c_X10_at (d := 38) hL rfl _ y ⟨_, rfl, c_X11_at (d := 37) hL rfl _ y ?_ ⟨?_, g⟩⟩
    · unfold p_X11_at
      rw [ey, ez]
      refine ⟨fun _ => ⟨fun _ => ⟨fun _ => ⟨?_, trivial⟩, fun _ => ⟨?_, ?_, trivial⟩⟩, fun _ => trivial⟩, fun _ => trivial⟩
      · rw [nI_add]; exact (inB_iff (by omega)).mpr (by omega)
      · rw [nI_add]; exact (inB_iff (by omega)).mpr (by omega)
      · rw [nI_add]; exact (inB_iff (by omega)).mpr (by omega)
    · unfold r_X10_at r_X11_at
      rw [if_pos (sC.mpr z), if_pos (sM.mpr z), c3, c2, get_enc hsm (by omega) (by omega), get_enc (VL_sm v4) (by have := v4.1; omega) hx, ey, ez, ex, m2 _ hx]
      rw [cls_in]
  · refine c_X10_at (d := 38) hL rfl _ y ⟨_, rfl, c_X11_at (d := 37) hL rfl _ y ⟨fun k => absurd (sM.mp k) z, fun _ => trivial⟩ ⟨?_, g⟩⟩
    unfold r_X10_at r_X11_at
    rw [if_neg (fun k => z (sC.mp k)), if_neg (fun k => z (sM.mp k))]
theorem op_over (hL : Lay h.2.2) (v : VS n sl c q nm sg w) (rc : RC h 12 n sl c q nm sg w) (rm : RM h n sl c q nm sg w) (x y : Int32) (g : G h) : Op MX10_over MX11_over [.int x, .int y] h G := by
  obtain ⟨⟨v1, v2⟩, v3, v4, v5, v6, v7, v8⟩ := v
  have c1 := rc.1
  have c3 := rc.2.2.2.2.2.2.1.2.2.2.2
  have m1 := rm.1
  have m3 := rm.2.2.2.2.2.2.1.2.2.2.1
  have sC := isSlotC_iff (x := x) c1 v2
  have sM := isSlotM_iff (x := x) m1 (by omega) v2
  have sC2 := isSlotC_iff (x := y) c1 v2
  have sM2 := isSlotM_iff (x := y) m1 (by omega) v2
  by_cases z : ∃ v, v < n ∧ x = nI v
  · by_cases z2 : ∃ v, v < n ∧ y = nI v
    · obtain ⟨s, hs, e⟩ := id z
      obtain ⟨s2, hs2, e2⟩ := id z2
      subst e
      subst e2
      have a1 : nI s * nI 16 + nI s2 = nI (s * 16 + s2) := by rw [pk_mul, nI_add]
      have a2 : nI 60 + nI 16 * nI s + nI s2 = nI (60 + 16 * s + s2) := by rw [pk_mul, nI_add, nI_add]
      refine c_X10_over (d := 38) hL rfl _ _ ?_ ⟨_, rfl, c_X11_over (d := 37) hL rfl _ _ ?_ ⟨?_, g⟩⟩
      · unfold p_X10_over p_X1_timesOver
        rw [a1]
        exact ⟨fun _ => ⟨fun _ => ⟨fun _ => trivial, fun _ => ⟨⟨(inB_iff (by omega)).mpr (by omega), trivial⟩, trivial⟩⟩, fun _ => trivial⟩, fun _ => trivial⟩
      · unfold p_X11_over
        rw [a2]
        exact ⟨fun _ => ⟨fun _ => ⟨fun _ => trivial, fun _ => ⟨(inB_iff (by omega)).mpr (by omega), trivial⟩⟩, fun _ => trivial⟩, fun _ => trivial⟩
      · unfold r_X10_over r_X11_over r_X1_timesOver
        rw [if_pos (sC.mpr z), if_pos (sM.mpr z), if_pos (sC2.mpr z2), if_pos (sM2.mpr z2), a1, a2, nI_clamp (by omega), nI_clamp (by omega), show 60 + 16 * s + s2 = 60 + (s * 16 + s2) by omega, m3 _ (by omega)]
        rw [show (15 : Nat) + 2 = 12 + 3 + 2 from rfl, c3 _ (by omega)]
    · refine c_X10_over (d := 38) hL rfl _ _ ⟨fun _ => ⟨fun k => absurd (sC2.mp k) z2, fun _ => trivial⟩, fun _ => trivial⟩ ⟨_, rfl, c_X11_over (d := 37) hL rfl _ _ ⟨fun _ => ⟨fun k => absurd (sM2.mp k) z2, fun _ => trivial⟩, fun _ => trivial⟩ ⟨?_, g⟩⟩
      unfold r_X10_over r_X11_over
      rw [if_pos (sC.mpr z), if_pos (sM.mpr z), if_neg (fun k => z2 (sC2.mp k)), if_neg (fun k => z2 (sM2.mp k))]
  · refine c_X10_over (d := 38) hL rfl _ _ ⟨fun k => absurd (sC.mp k) z, fun _ => trivial⟩ ⟨_, rfl, c_X11_over (d := 37) hL rfl _ _ ⟨fun k => absurd (sM.mp k) z, fun _ => trivial⟩ ⟨?_, g⟩⟩
    unfold r_X10_over r_X11_over
    rw [if_neg (fun k => z (sC.mp k)), if_neg (fun k => z (sM.mp k))]
theorem shr4 {x y : Nat} (hx : x < 16) (hy : y < 16) : nI (x + 16 * y) >>> (nI 4 &&& 31) = nI y := by
  have k : ∀ a : Fin 16, ∀ b : Fin 16, nI (a.val + 16 * b.val) >>> (nI 4 &&& 31) = nI b.val := by decide +kernel
  exact k ⟨x, hx⟩ ⟨y, hy⟩
theorem op_outside (hL : Lay h.2.2) (v : VS n sl c q nm sg w) (rc : RC h 12 n sl c q nm sg w) (rm : RM h n sl c q nm sg w) (x y : Int32) (g : G h) : Op MX10_outside MX11_outside [.int x, .int y] h G := by
  have m4 := rm.2.2.2.2.2.2.1.2.2.2.2
  have c3 := rc.2.2.2.2.2.2.2
  generalize w.2.2.2.2.2 = R at m4 c3
  obtain ⟨r1, r2, r3⟩ := c3
  obtain ⟨_, m5, m6⟩ := m4
  have r2 : gI h 15 3 = nI R.length := r2
  by_cases z : ∃ v, v < R.length ∧ x = nI v
  · obtain ⟨i, hi, e⟩ := z
    subst e
    have iM : r_X11_isIn (nI i) (nI 0) (nI R.length - nI 1) = true := by
      rw [pk_sub (by omega), isIn_iff (by omega)]
      exact ⟨i, by omega, rfl⟩
    obtain ⟨⟨q1, q2⟩, r3⟩ := r3 i hi
    have r3 : gI h (12 + 6) i = nI ((gQ R i).1 + 16 * (gQ R i).2) := r3
    obtain ⟨n1, n2⟩ := m6 i hi
    have iY := isIn_iff (x := y) (m := 1) (by decide)
    refine c_X10_outside (d := 38) hL rfl _ _ ?_ ⟨_, rfl, c_X11_outside (d := 38) hL rfl _ _ ?_ ⟨?_, g⟩⟩
    · have ib : inB (nI i) 300 = true := (inB_iff (by omega)).mpr (by omega)
      exact ⟨fun _ => trivial, fun _ => ⟨fun _ => ⟨fun _ => trivial, fun _ => ⟨fun _ => trivial, fun _ => ⟨⟨fun _ => ⟨ib, trivial⟩, fun _ => ⟨ib, trivial⟩⟩, trivial⟩⟩⟩, fun _ => trivial⟩⟩
    · refine ⟨fun _ => ⟨fun k => ?_, fun _ => trivial⟩, fun _ => trivial⟩
      obtain ⟨t, ht, e⟩ := iY.mp k
      subst e
      rw [pk_mul, nI_add, nI_add]
      exact ⟨(inB_iff (by omega)).mpr (by omega), trivial⟩
    · unfold r_X10_outside r_X11_outside r_X8_rowPart
      rw [r2, m5, if_neg (nI_pos (by omega)), if_pos (nI_lt hi (by omega)), if_pos iM, nI_clamp (by omega), r3, and15, shr4 q1 q2, show ((gQ R i).1 + 16 * (gQ R i).2) % 16 = (gQ R i).1 by omega]
      rw [cls_in]
      by_cases k : r_X11_isIn y (nI 0) (nI 1) = true
      · rw [if_pos k, if_pos k]
        obtain ⟨t, ht, e⟩ := iY.mp k
        subst e
        rw [pk_mul, nI_add, nI_add, nI_clamp (by omega)]
        by_cases t0 : t = 0
        · subst t0
          rw [if_pos nI_0, Nat.add_zero, n1]
        · rw [if_neg (fun k => t0 ((nI_eq0 (by omega)).mp k)), show t = 1 by omega, n2]
      · rw [if_neg k, if_neg k]
  · have iM : ¬ r_X11_isIn x (nI 0) (nI R.length - nI 1) = true := by
      intro k
      by_cases l0 : R.length = 0
      · unfold r_X11_isIn at k
        rw [l0, show nI 0 - nI 1 = (-1 : Int32) from by decide] at k
        by_cases x0 : x < nI 0
        · rw [if_pos x0] at k; exact absurd k (by decide)
        · rw [if_neg x0] at k
          rw [nI_0] at x0
          obtain ⟨t, ht, e⟩ := nI_of x0
          subst e
          have : (-1 : Int32) < nI t := by
            rw [fa_lt, nI_toInt ht]
            have : (-1 : Int32).toInt = -1 := by decide
            omega
          rw [if_pos this] at k
          exact absurd k (by decide)
      · rw [pk_sub (by omega), isIn_iff (by omega)] at k
        obtain ⟨t, ht, e⟩ := k
        exact z ⟨t, by omega, e⟩
    have iC : ¬ x < 0 → ¬ x < nI R.length := fun x0 k => by
      obtain ⟨t, ht, e⟩ := nI_of x0
      subst e
      exact z ⟨t, (nI_ltI ht (by omega)).mp k, rfl⟩
    refine c_X10_outside (d := 38) hL rfl _ _ ⟨fun _ => trivial, fun x0 => ⟨fun k => absurd (by rw [r2] at k; exact k) (iC x0), fun _ => trivial⟩⟩ ⟨_, rfl, c_X11_outside (d := 38) hL rfl _ _ ⟨fun k => absurd (by rw [m5] at k; exact k) iM, fun _ => trivial⟩ ⟨?_, g⟩⟩
    unfold r_X10_outside r_X11_outside
    rw [m5, r2, if_neg iM]
    by_cases x0 : x < 0
    · rw [if_pos x0]
    · rw [if_neg x0, if_neg (iC x0)]
-- where a strand sits
theorem s_slotOf {d : Nat} {Q : Option Value → Hp → Prop} (hL : Lay T) (eT : h.2.2 = T) {l : List Nat} (hp : pm n l) (h16 : n ≤ 16) (hr : MR h l) {x i : Nat} (hi : i < n) (hx : l.getD i 0 = x) (K : Q (some (.int (nI i))) h) : Call (d + 0) MX11_slotOf [.ref 59, .int (nI x)] h Q := by
  have hl := hp.1
  have hsm := pm_sm hp h16
  refine b_X11_slotOf hL eT _ (upto i (fun _ h1 => h1 = h) (fun j h1 => L_X11_slotOf_2 d (nI x) (nI j) h1 Q) ?_ ?_ 0 h (Nat.zero_le _) rfl)
  · rintro j h1 hj rfl ih
    refine b_X11_slotOf_2 hL eT _ _ ?_
    have := sm_getD hsm j
    have hx16 := sm_getD hsm i
    rw [nI_add, nI_clamp (by omega), hr j (by omega), nI_add]
    refine ⟨(inB_iff (by omega)).mpr (by omega), fun k => ?_, fun _ => ih _ rfl⟩
    have k := nI_inj (by omega) (by omega) k
    have := hp.2.1 j i (by omega) (by omega) (k.trans hx.symm)
    omega
  · rintro h1 rfl
    refine b_X11_slotOf_2 hL eT _ _ ?_
    rw [nI_add, nI_clamp (by omega), hr i (by omega), hx]
    exact ⟨(inB_iff (by omega)).mpr (by omega), fun _ => K, fun k => absurd rfl k⟩
theorem s_slotWith {d : Nat} {Q : Option Value → Hp → Prop} (hL : Lay T) (eT : h.2.2 = T) {l : List Nat} (hp : pm n l) (h16 : n ≤ 16) {x i : Nat} (hi : i < n) (hx : l.getD i 0 = x) (K : Q (some (.int (nI i))) h) : Call (d + 1) MX6_slotWith [.long (lN (enc l)), .int (nI x), .int (nI n)] h Q := by
  have hl := hp.1
  have hsm := pm_sm hp h16
  refine b_X6_slotWith hL eT _ _ _ (upto i (fun _ h1 => h1 = h) (fun j h1 => L_X6_slotWith_3 d (lN (enc l)) (nI x) (nI n) (nI j) h1 Q) ?_ ?_ 0 h (Nat.zero_le _) rfl)
  · rintro j h1 hj rfl ih
    refine b_X6_slotWith_3 hL eT _ _ _ _ ?_
    have := sm_getD hsm j
    have hx16 := sm_getD hsm i
    rw [get_enc hsm (by omega) (by omega), nI_add]
    refine ⟨fun _ => ⟨fun k => ?_, fun _ => ih _ rfl⟩, fun k => absurd (nI_lt (by omega) (by omega)) k⟩
    have k := nI_inj (by omega) (by omega) k
    have := hp.2.1 j i (by omega) (by omega) (k.trans hx.symm)
    omega
  · rintro h1 rfl
    refine b_X6_slotWith_3 hL eT _ _ _ _ ?_
    rw [get_enc hsm (by omega) (by omega), hx]
    exact ⟨fun _ => ⟨fun _ => K, fun k => absurd rfl k⟩, fun k => absurd (nI_lt (by omega) (by omega)) k⟩
theorem toInt_sw {y : Int32} {m : Nat} (hm : m < 2 ^ 31) (h : ∀ v, v ≤ m → y ≠ nI v) : y.toInt < 0 ∨ (m : Int) < y.toInt := by
  by_cases y0 : y < 0
  · rw [fa_lt] at y0
    exact Or.inl y0
  · obtain ⟨t, ht, e⟩ := nI_of y0
    subst e
    rw [nI_toInt ht]
    have : m < t := Nat.lt_of_not_le (fun k => h t k rfl)
    omega
theorem op_of (hL : Lay h.2.2) (v : VS n sl c q nm sg w) (rc : RC h 12 n sl c q nm sg w) (rm : RM h n sl c q nm sg w) (x y : Int32) (g : G h) : Op MX10_of MX11_of [.int x, .int y] h G := by
  obtain ⟨⟨v1, v2⟩, v3, v4, v5, v6, v7, v8⟩ := v
  have c1 := rc.1
  have c2 : gJ h 12 2 = lN (enc c) := rc.2.2.1
  obtain ⟨c3, c4, c5, c6, c7⟩ := rc.2.2.2.2.2.2.1
  have c3 : gJ h 15 0 = lN (enc w.2.2.2.1) := c3
  have m1 := rm.1
  have m2 := rm.2.2.1
  obtain ⟨k1, k2, k3, k4, k5⟩ := rm.2.2.2.2.2.2.1
  have m3 := rm.2.2.2.2.2.2.2
  have sC := isSlotC_iff (x := x) c1 v2
  have sM := isSlotM_iff (x := x) m1 (by omega) v2
  by_cases z : ∃ v, v < n ∧ x = nI v
  · obtain ⟨s, hs, e⟩ := id z
    subst e
    obtain ⟨i, hi, ex⟩ := v8.1.2.2.2 s hs
    have M : ∀ (r : Int32), (y = nI 0 → r = nI i) → (y = nI 1 → r = gI h 60 (10 + s)) → (y = nI 2 → r = gI h 60 (26 + s)) → ((∀ v, v ≤ 2 → y ≠ nI v) → r = -1) → Call 39 MX11_of [.ref 59, .int (nI s), .int y] h (fun v' h2 => v' = some (.int r) ∧ G h2) := by
      intro r r0 r1 r2 r3
      refine b_X11_of (d := 37) hL rfl _ _ ⟨fun _ => ⟨fun k => ?_, fun k => ⟨fun k1 => ?_, fun k1 => ⟨fun k2 => ?_, fun k2 => ?_⟩⟩⟩, fun k => absurd (sM.mpr z) k⟩
      · exact s_slotOf (d := 38) hL rfl v8.1 v2 m3 hi ex ⟨_, rfl, rfl, by rw [r0 k], g⟩
      · rw [nI_add, nI_clamp (by omega)]
        exact ⟨(inB_iff (by omega)).mpr (by omega), by rw [r1 k1], g⟩
      · rw [nI_add, nI_clamp (by omega)]
        exact ⟨(inB_iff (by omega)).mpr (by omega), by rw [r2 k2], g⟩
      · have e := r3 (fun v hv e => by
          have : v = 0 ∨ v = 1 ∨ v = 2 := by omega
          rcases this with u | u | u
          · exact k (by rw [e, u]; rfl)
          · exact k1 (by rw [e, u])
          · exact k2 (by rw [e, u]))
        exact ⟨by rw [e], g⟩
    refine b_X10_of (d := 37) hL rfl _ _ ⟨fun _ => ⟨fun k => ?_, fun k => ?_, fun k => ?_, fun k => ?_⟩, fun k => absurd (sC.mpr z) k⟩
    · rw [c3, c1]
      refine s_slotWith (d := 37) hL rfl v8.1 v2 hi ex ⟨_, rfl, rfl, _, rfl, M _ (fun _ => rfl) (fun u => ?_) (fun u => ?_) (fun u => ?_)⟩
      · rw [k] at u; exact absurd u (by decide)
      · rw [k] at u; exact absurd u (by decide)
      · exact absurd k (u 0 (by decide))
    · refine ⟨_, rfl, M _ (fun u => ?_) (fun u => ?_) (fun u => ?_) (fun u => ?_)⟩
      · rw [k] at u; exact absurd u (by decide)
      · rw [c2, get_enc (VL_sm v4) (by have := v4.1; omega) (by omega), m2 s (by omega)]
      · rw [k] at u; exact absurd u (by decide)
      · exact absurd k (u 1 (by decide))
    · refine ⟨(inB_iff (by omega)).mpr (by omega), _, rfl, M _ (fun u => ?_) (fun u => ?_) (fun u => ?_) (fun u => ?_)⟩
      · rw [k] at u; exact absurd u (by decide)
      · rw [k] at u; exact absurd u (by decide)
      · rw [nI_clamp (by omega), k3 s (by omega)]
        exact c6 s (by omega)
      · exact absurd k (u 2 (by decide))
    · refine ⟨_, rfl, M _ (fun u => ?_) (fun u => ?_) (fun u => ?_) (fun _ => rfl)⟩
      all_goals
        rw [u, nI_toInt (by decide)] at k
        omega
  · refine b_X10_of (d := 37) hL rfl _ _ ⟨fun k => absurd (sC.mp k) z, fun _ => ⟨_, rfl, ?_⟩⟩
    exact b_X11_of (d := 37) hL rfl _ _ ⟨fun k => absurd (sM.mp k) z, fun _ => ⟨rfl, g⟩⟩
end Ask
