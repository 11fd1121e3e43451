section Easy2
variable {L : Nat} {xs : Nat → Int32} {h : Hp}
theorem op_slip (I : Inv L xs h) (x : Int32) : Op MX10_slip MX11_slip [.int x] h (Inv L xs) := by
  obtain ⟨R, n, sl, c, q, nm, sg, w, v, rc, rm, hs⟩ := id I
  have hL := R.1
  have eC : r_X10_slip x h = (if r_X11_isIn x (nI 0) (nI 1000) = true then true else false) := cls_in x 1000 true false
  have eW : w_X10_slip x h = if r_X11_isIn x (nI 0) (nI 1000) = true then w_X2_forget (sI h 12 1 x) else h := cls_in x 1000 _ _
  refine c_X10_slip (d := 38) hL rfl x ⟨_, rfl, ?_⟩
  rw [eC, eW]
  by_cases z : r_X11_isIn x (nI 0) (nI 1000) = true
  · rw [if_pos z, if_pos z]
    refine c_X11_slip (d := 38) (h := w_X2_forget (sI h 12 1 x)) hL rfl x ⟨?_, ?_⟩
    · unfold r_X11_slip; rw [if_pos z]
    · unfold w_X11_slip
      rw [if_pos z]
      obtain ⟨t, ht, e⟩ := (isIn_iff (by decide)).mp z
      subst e
      have g : ∀ b j, (b = 12 → j ≠ 1) → (b = 28 → j ≠ 0) → (b = 60 → j ≠ 1) → (b = 59 → j ≠ 3) → gI (sI (sI (w_X2_forget (sI h 12 1 (nI t))) 60 1 (nI t)) 59 3 (nI 0)) b j = gI h b j := by
        intro b j f1 f2 f3 f4
        rw [gI_sI, if_neg (fun z => f4 z.1 z.2), gI_sI, if_neg (fun z => f3 z.1 z.2), w_forget, if_neg (fun z => f2 z.1 z.2), gI_sI, if_neg (fun z => f1 z.1 z.2)]
      have gj : ∀ b j, gJ (sI (sI (w_X2_forget (sI h 12 1 (nI t))) 60 1 (nI t)) 59 3 (nI 0)) b j = gJ h b j := fun _ _ => rfl
      have g0 : gI (sI (sI (w_X2_forget (sI h 12 1 (nI t))) 60 1 (nI t)) 59 3 (nI 0)) 12 1 = nI t := rfl
      have g1 : gI (sI (sI (w_X2_forget (sI h 12 1 (nI t))) 60 1 (nI t)) 59 3 (nI 0)) 60 1 = nI t := rfl
      have g2 : gI (sI (sI (w_X2_forget (sI h 12 1 (nI t))) 60 1 (nI t)) 59 3 (nI 0)) 28 0 = nI 0 := rfl
      have g3 : gI (sI (sI (w_X2_forget (sI h 12 1 (nI t))) 60 1 (nI t)) 59 3 (nI 0)) 59 3 = nI 0 := rfl
      have gt : (sI (sI (w_X2_forget (sI h 12 1 (nI t))) 60 1 (nI t)) 59 3 (nI 0)).2.2 = h.2.2 := rfl
      generalize sI (sI (w_X2_forget (sI h 12 1 (nI t))) 60 1 (nI t)) 59 3 (nI 0) = hh at *
      refine ⟨R.tr gt (fun b j u => g b j (by omega) (by omega) (by omega) (by omega)) (fun b j u => gj _ _) (fun j u _ => g _ _ (by omega) (by omega) (by omega) (fun _ => u)), n, t, c, q, nm, sg, w, ⟨v.1, ht, v.2.2⟩, ?_, ?_, ?_⟩
      · obtain ⟨r1, r2, r3, r4, r5, r6, r7, r8⟩ := rc
        refine ⟨by rw [g _ _ (by omega) (by omega) (by omega) (by omega)]; exact r1, g0, by rw [gj]; exact r3, by rw [gj]; exact r4, fun i hi => by rw [g _ _ (by omega) (by omega) (by omega) (by omega)]; exact r5 i hi, fun k hk => (r6 k hk).tr (fun b j u v => g b j (by omega) (by omega) (by omega) (by omega)), r7.tr (fun b j u v => g b j (by omega) (by omega) (by omega) (by omega)) (gj _ _), r8.tr (g _ _ (by omega) (by omega) (by omega) (by omega)) (fun j => g _ _ (by omega) (by omega) (by omega) (by omega))⟩
      · obtain ⟨r1, r2, r3, r4, r5, r6, r7, r8⟩ := rm
        have gg : ∀ j, j ≠ 1 → gI hh 60 j = gI h 60 j := fun j hj => g _ _ (by omega) (by omega) (fun _ => hj) (by omega)
        exact ⟨by rw [gg _ (by omega)]; exact r1, g1, fun s hs => by rw [gg _ (by omega)]; exact r3 s hs, fun s hs => by rw [gg _ (by omega)]; exact r4 s hs, fun s hs => by rw [gg _ (by omega)]; exact r5 s hs, fun k hk => (r6 k hk).tr2 (fun j hj => gg _ (by omega)), r7.congr (fun j hj => gg _ (by unfold tch at hj; omega)), fun t ht => by rw [gg _ (by omega)]; exact r8 t ht⟩
      · obtain ⟨nx, u1, u2⟩ := hs.nx
        exact HS.none g2 g3 u1 (by rw [g _ _ (by omega) (by omega) (by omega) (by omega)]; exact u2)
  · rw [if_neg z, if_neg z]
    refine c_X11_slip (d := 38) hL rfl x ⟨?_, ?_⟩
    · unfold r_X11_slip; rw [if_neg z]
    · unfold w_X11_slip; rw [if_neg z]; exact I
theorem op_want (I : Inv L xs h) (x y : Int32) : Op MX10_want MX11_want [.int x, .int y] h (Inv L xs) := by
  obtain ⟨R, n, sl, c, q, nm, sg, w, v, rc, rm, hs⟩ := id I
  have hL := R.1
  obtain ⟨⟨v1, v2⟩, v3, v4, v5, v6, v7, v8⟩ := id v
  have sC := isSlotC_iff (x := x) rc.1 v2
  have sM := isSlotM_iff (x := x) rm.1 (by omega) v2
  have iC := isColC_iff (x := y)
  have iM := (cls3 y).symm.trans iC
  have no : ¬ ((∃ v, v < n ∧ x = nI v) ∧ ∃ v, v < 10 ∧ y = nI v) → Op MX10_want MX11_want [.int x, .int y] h (Inv L xs) := by
    intro z
    have eC : r_X10_want x y h = false ∧ w_X10_want x y h = h := by
      unfold r_X10_want w_X10_want
      by_cases z1 : r_X10_isSlot x h = true
      · have z2 : ¬ r_X10_isColour y = true := fun k => z ⟨sC.mp z1, iC.mp k⟩
        rw [if_pos z1, if_pos z1, if_neg z2, if_neg z2]; exact ⟨rfl, rfl⟩
      · rw [if_neg z1, if_neg z1]; exact ⟨rfl, rfl⟩
    have eM : p_X11_want x y h ∧ r_X11_want x y h = false ∧ w_X11_want x y h = h := by
      unfold r_X11_want w_X11_want p_X11_want
      by_cases z1 : r_X11_isSlot x h = true
      · have z2 : ¬ r_X11_isIn y (nI 0) (nI 9) = true := fun k => z ⟨sM.mp z1, iM.mp k⟩
        rw [if_pos z1, if_pos z1, if_neg z2, if_neg z2]; exact ⟨⟨fun _ => ⟨fun k => absurd k z2, fun _ => trivial⟩, fun _ => trivial⟩, rfl, rfl⟩
      · rw [if_neg z1, if_neg z1]; exact ⟨⟨fun k => absurd k z1, fun _ => trivial⟩, rfl, rfl⟩
    refine c_X10_want (d := 38) hL rfl x y ⟨_, rfl, ?_⟩
    rw [eC.2, eC.1]
    refine c_X11_want (d := 37) hL rfl x y eM.1 ⟨?_, ?_⟩
    · rw [eM.2.1]
    · rw [eM.2.2]; exact I
  by_cases z1 : ∃ v, v < n ∧ x = nI v
  · by_cases z2 : ∃ v, v < 10 ∧ y = nI v
    · obtain ⟨s, hs', e1⟩ := id z1
      obtain ⟨k, hk, e2⟩ := id z2
      have eC : r_X10_want x y h = true ∧ w_X10_want x y h = sJ h 12 3 (lN (enc (q.set s k))) := by
        unfold r_X10_want w_X10_want
        rw [if_pos (sC.mpr z1), if_pos (iC.mpr z2), if_pos (sC.mpr z1), if_pos (iC.mpr z2), rc.2.2.2.1, e1, e2, with_enc (VL_sm v5) (by have := v5.1; omega) (by have := v5.1; omega) (by omega)]
        exact ⟨rfl, rfl⟩
      have sM2 : r_X11_isSlot x (w_X10_want x y h) = true := by rw [eC.2]; exact sM.mpr z1
      have ea : (nI 920 + x).toNatClampNeg = 920 + s := by rw [e1, nI_add, nI_clamp (by omega)]
      refine c_X10_want (d := 38) hL rfl x y ⟨_, rfl, c_X11_want (d := 37) (h := w_X10_want x y h) (by rw [eC.2]; exact hL) rfl x y ⟨fun _ => ⟨fun _ => ⟨?_, trivial⟩, fun _ => trivial⟩, fun k => absurd sM2 k⟩ ⟨?_, ?_⟩⟩
      · rw [e1, nI_add]; exact (inB_iff (by omega)).mpr (by omega)
      · unfold r_X11_want
        rw [if_pos sM2, if_pos (iM.mpr z2), eC.1]
      · have ew : w_X11_want x y (w_X10_want x y h) = sI (sJ h 12 3 (lN (enc (q.set s k)))) 60 (920 + s) y := by
          unfold w_X11_want
          rw [if_pos sM2, if_pos (iM.mpr z2), ea, eC.2]
        rw [ew]
        have g : ∀ b j, (b = 60 → j ≠ 920 + s) → gI (sI (sJ h 12 3 (lN (enc (q.set s k)))) 60 (920 + s) y) b j = gI h b j := by
          intro b j f3
          rw [gI_sI, if_neg (fun z => f3 z.1 z.2), gI_sJ]
        have gj : ∀ b j, ¬ (b = 12 ∧ j = 3) → gJ (sI (sJ h 12 3 (lN (enc (q.set s k)))) 60 (920 + s) y) b j = gJ h b j := by
          intro b j f
          show gJ (sJ h 12 3 (lN (enc (q.set s k)))) b j = _
          rw [gJ_sJ, if_neg f]
        have gc : gI (sI (sJ h 12 3 (lN (enc (q.set s k)))) 60 (920 + s) y) 60 (920 + s) = y := by
          rw [gI_sI_at, if_pos rfl]
        have gd : gJ (sI (sJ h 12 3 (lN (enc (q.set s k)))) 60 (920 + s) y) 12 3 = lN (enc (q.set s k)) := rfl
        have gt : (sI (sJ h 12 3 (lN (enc (q.set s k)))) 60 (920 + s) y).2.2 = h.2.2 := rfl
        generalize sI (sJ h 12 3 (lN (enc (q.set s k)))) 60 (920 + s) y = hh at *
        refine ⟨R.tr gt (fun b j u => g b j (by omega)) (fun b j u => gj _ _ (by omega)) (fun j u _ => g _ _ (by omega)), n, sl, c, q.set s k, nm, sg, w, ⟨⟨v1, v2⟩, v3, v4, VL_set v5 hs' v2 hk, v6, v7, v8⟩, ?_, ?_, ?_⟩
        · obtain ⟨r1, r2, r3, r4, r5, r6, r7, r8⟩ := rc
          refine ⟨by rw [g _ _ (by omega)]; exact r1, by rw [g _ _ (by omega)]; exact r2, by rw [gj _ _ (by omega)]; exact r3, gd, fun i hi => by rw [g _ _ (by omega)]; exact r5 i hi, fun k hk => (r6 k hk).tr (fun b j u v => g b j (by omega)), r7.tr (fun b j u v => g b j (by omega)) (gj _ _ (by omega)), r8.tr (g _ _ (by omega)) (fun j => g _ _ (by omega))⟩
        · obtain ⟨r1, r2, r3, r4, r5, r6, r7, r8⟩ := rm
          have hl := v8.1.1
          refine ⟨by rw [g _ _ (by omega)]; exact r1, by rw [g _ _ (by omega)]; exact r2, fun t ht => by rw [g _ _ (by omega)]; exact r3 t ht, fun t ht => ?_, fun s hs => by rw [g _ _ (by omega)]; exact r5 s hs, fun k hk => (r6 k hk).tr2 (fun j hj => g _ _ (by omega)), r7.congr (fun j hj => g _ _ (by unfold tch at hj; omega)), fun t ht => by rw [g _ _ (by omega)]; exact r8 t ht⟩
          rw [set_get (by have := v5.1; omega)]
          by_cases k2 : t = s
          · rw [if_pos k2, k2, gc, e2]
          · rw [if_neg k2, g _ _ (by omega)]; exact r4 t ht
        · exact hs.tr (fun b j u v => g _ _ (by omega)) (fun b j u v => gj _ _ (by omega)) (fun i => g _ _ (by omega)) (g _ _ (by omega))
    · exact no (fun k => z2 k.2)
  · exact no (fun k => z1 k.1)
theorem isInm1 {y : Int32} : (r_X11_isIn y (-1) (nI 9) = true) ↔ (y = -1 ∨ ∃ v, v < 10 ∧ y = nI v) := by
  unfold r_X11_isIn
  have em : (-1 : Int32).toInt = -1 := by decide
  have e0 : (0 : Int32).toInt = 0 := by decide
  constructor
  · intro k
    by_cases z : y < -1
    · rw [if_pos z] at k; exact absurd k (by decide)
    · rw [if_neg z] at k
      by_cases y0 : y < 0
      · left
        rw [fa_lt] at z y0
        rw [fa_eq]
        omega
      · obtain ⟨v, hv, e⟩ := nI_of y0
        subst e
        by_cases u : nI 9 < nI v
        · rw [if_pos u] at k; exact absurd k (by decide)
        · exact Or.inr ⟨v, Nat.lt_of_not_le (fun t => u (nI_lt (by omega) hv)), rfl⟩
  · rintro (e | ⟨v, hv, e⟩)
    · subst e; decide
    · subst e
      rw [if_neg (by rw [fa_lt, nI_toInt (by omega)]; omega), if_neg (nI_nlt (by omega) (by decide))]
theorem op_name (I : Inv L xs h) (x y : Int32) : Op MX10_name MX11_name [.int x, .int y] h (Inv L xs) := by
  obtain ⟨R, n, sl, c, q, nm, sg, w, v, rc, rm, hs⟩ := id I
  have hL := R.1
  obtain ⟨⟨v1, v2⟩, v3, v4, v5, v6, v7, v8⟩ := id v
  have iC := isColC_iff (x := y)
  have iM := isInm1 (y := y)
  have jM := isIn_iff (x := x) (m := 29) (by decide)
  have inx : ¬ x < 0 → x < nI 30 → inB x 30 = true := fun x0 x1 => by
    obtain ⟨t, ht, e⟩ := nI_of x0
    subst e
    exact (inB_iff ht).mpr ((nI_ltI ht (by decide)).mp x1)
  have pC : p_X10_name x y h := ⟨fun _ => trivial, fun x0 => ⟨fun x1 => ⟨fun _ => ⟨inx x0 x1, trivial⟩, fun _ => ⟨fun _ => ⟨inx x0 x1, trivial⟩, fun _ => trivial⟩⟩, fun _ => trivial⟩⟩
  by_cases z : (∃ v, v ≤ 29 ∧ x = nI v) ∧ (y = -1 ∨ ∃ v, v < 10 ∧ y = nI v)
  · obtain ⟨s, hs', e1⟩ := id z.1
    have ea : (nI 940 + x).toNatClampNeg = 940 + s := by rw [e1, nI_add, nI_clamp (by omega)]
    have eb : x.toNatClampNeg = s := by rw [e1, nI_clamp (by omega)]
    have eC : r_X10_name x y h = true ∧ w_X10_name x y h = sI h 13 s y := by
      unfold r_X10_name w_X10_name
      rw [eb]
      have x0 : ¬ x < 0 := by rw [e1]; exact nI_pos (by omega)
      have x1 : x < nI 30 := by rw [e1]; exact nI_lt (by omega) (by decide)
      rw [if_neg x0, if_neg x0, if_pos x1, if_pos x1]
      by_cases y1 : y = -1
      · rw [if_pos y1, if_pos y1]; exact ⟨rfl, rfl⟩
      · have y2 := iC.mpr (z.2.resolve_left y1)
        rw [if_neg y1, if_neg y1, if_pos y2, if_pos y2]; exact ⟨rfl, rfl⟩
    have pM : ∀ hh, p_X11_name x y hh := fun hh => ⟨fun _ => ⟨fun _ => ⟨by rw [e1, nI_add]; exact (inB_iff (by omega)).mpr (by omega), trivial⟩, fun _ => trivial⟩, fun k => absurd (jM.mpr z.1) k⟩
    have eM : ∀ hh, r_X11_name x y hh = true ∧ w_X11_name x y hh = sI hh 60 (940 + s) y := fun hh => by
      unfold r_X11_name w_X11_name
      rw [if_pos (jM.mpr z.1), if_pos (jM.mpr z.1), if_pos (iM.mpr z.2), if_pos (iM.mpr z.2), ea]
      exact ⟨rfl, rfl⟩
    refine c_X10_name (d := 38) hL rfl x y pC ⟨_, rfl, ?_⟩
    rw [eC.1, eC.2]
    refine c_X11_name (d := 38) (h := sI h 13 s y) hL rfl x y (pM _) ⟨?_, ?_⟩
    · rw [(eM _).1]
    · rw [(eM _).2]
      have g : ∀ b j, (b = 60 → j ≠ 940 + s) → (b = 13 → j ≠ s) → gI (sI (sI h 13 s y) 60 (940 + s) y) b j = gI h b j := by
        intro b j f3 f4
        rw [gI_sI, if_neg (fun z => f3 z.1 z.2), gI_sI, if_neg (fun z => f4 z.1 z.2)]
      have gj : ∀ b j, gJ (sI (sI h 13 s y) 60 (940 + s) y) b j = gJ h b j := fun _ _ => rfl
      have gc : gI (sI (sI h 13 s y) 60 (940 + s) y) 60 (940 + s) = y := by rw [gI_sI_at, if_pos rfl]
      have gd : gI (sI (sI h 13 s y) 60 (940 + s) y) 13 s = y := by rw [gI_sI_ne (by decide), gI_sI_at, if_pos rfl]
      have gt : (sI (sI h 13 s y) 60 (940 + s) y).2.2 = h.2.2 := rfl
      generalize sI (sI h 13 s y) 60 (940 + s) y = hh at *
      refine ⟨R.tr gt (fun b j u => g b j (by omega) (by omega)) (fun b j u => gj _ _) (fun j u _ => g _ _ (by omega) (by omega)), n, sl, c, q, (fun i => if i = s then y else nm i), sg, w, ⟨⟨v1, v2⟩, v3, v4, v5, fun i => ?_, v7, v8⟩, ?_, ?_, ?_⟩
      · dsimp only
        split
        · exact z.2
        · exact v6 i
      · obtain ⟨r1, r2, r3, r4, r5, r6, r7, r8⟩ := rc
        refine ⟨by rw [g _ _ (by omega) (by omega)]; exact r1, by rw [g _ _ (by omega) (by omega)]; exact r2, by rw [gj]; exact r3, by rw [gj]; exact r4, fun i hi => ?_, fun k hk => (r6 k hk).tr (fun b j u v => g b j (by omega) (by omega)), r7.tr (fun b j u v => g b j (by omega) (by omega)) (gj _ _), r8.tr (g _ _ (by omega) (by omega)) (fun j => g _ _ (by omega) (by omega))⟩
        dsimp only
        by_cases k : i = s
        · rw [if_pos k, k]; exact gd
        · rw [if_neg k, g _ _ (by omega) (by omega)]; exact r5 i hi
      · obtain ⟨r1, r2, r3, r4, r5, r6, r7, r8⟩ := rm
        have hl := v8.1.1
        refine ⟨by rw [g _ _ (by omega) (by omega)]; exact r1, by rw [g _ _ (by omega) (by omega)]; exact r2, fun t ht => by rw [g _ _ (by omega) (by omega)]; exact r3 t ht, fun s hs => by rw [g _ _ (by omega) (by omega)]; exact r4 s hs, fun i hi => ?_, fun k hk => (r6 k hk).tr2 (fun j hj => g _ _ (by omega) (by omega)), r7.congr (fun j hj => g _ _ (by unfold tch at hj; omega) (by omega)), fun t ht => by rw [g _ _ (by omega) (by omega)]; exact r8 t ht⟩
        dsimp only
        by_cases k : i = s
        · rw [if_pos k, k]; exact gc
        · rw [if_neg k, g _ _ (by omega) (by omega)]; exact r5 i hi
      · exact hs.tr (fun b j u v => g _ _ (by omega) (by omega)) (fun b j u v => gj _ _) (fun i => g _ _ (by omega) (by omega)) (g _ _ (by omega) (by omega))
  · have eC : r_X10_name x y h = false ∧ w_X10_name x y h = h := by
      unfold r_X10_name w_X10_name
      by_cases x0 : x < 0
      · rw [if_pos x0, if_pos x0]; exact ⟨rfl, rfl⟩
      · rw [if_neg x0, if_neg x0]
        by_cases x1 : x < nI 30
        · have zx : ∃ v, v ≤ 29 ∧ x = nI v := by
            obtain ⟨t, ht, e⟩ := nI_of x0
            subst e
            exact ⟨t, by have := (nI_ltI ht (by decide)).mp x1; omega, rfl⟩
          have zy : ¬ y = -1 ∧ ¬ r_X10_isColour y = true := ⟨fun k => z ⟨zx, Or.inl k⟩, fun k => z ⟨zx, Or.inr (iC.mp k)⟩⟩
          rw [if_pos x1, if_pos x1, if_neg zy.1, if_neg zy.1, if_neg zy.2, if_neg zy.2]; exact ⟨rfl, rfl⟩
        · rw [if_neg x1, if_neg x1]; exact ⟨rfl, rfl⟩
    have eM : p_X11_name x y h ∧ r_X11_name x y h = false ∧ w_X11_name x y h = h := by
      unfold r_X11_name w_X11_name p_X11_name
      by_cases z1 : r_X11_isIn x (nI 0) (nI 29) = true
      · have z2 : ¬ r_X11_isIn y (-1) (nI 9) = true := fun k => z ⟨jM.mp z1, iM.mp k⟩
        rw [if_pos z1, if_pos z1, if_neg z2, if_neg z2]; exact ⟨⟨fun _ => ⟨fun k => absurd k z2, fun _ => trivial⟩, fun _ => trivial⟩, rfl, rfl⟩
      · rw [if_neg z1, if_neg z1]; exact ⟨⟨fun k => absurd k z1, fun _ => trivial⟩, rfl, rfl⟩
    refine c_X10_name (d := 38) hL rfl x y pC ⟨_, rfl, ?_⟩
    rw [eC.2, eC.1]
    refine c_X11_name (d := 38) hL rfl x y eM.1 ⟨?_, ?_⟩
    · rw [eM.2.1]
    · rw [eM.2.2]; exact I
theorem op_end (I : Inv L xs h) (x : Int32) : Op MX10_end MX11_end [.int x] h (Inv L xs) := by
  obtain ⟨R, C⟩ := id I
  have hL := R.1
  obtain ⟨Lt, tp, t1, t2, t3, t4⟩ := R.2.1
  have eC : r_X10_end x h = (if r_X11_isIn x (nI 0) (nI Lt) = true then true else false) := by unfold r_X10_end; rw [t2]; exact cls_in x Lt true false
  have eW : w_X10_end x h = if r_X11_isIn x (nI 0) (nI Lt) = true then sI h 3 0 x else h := by unfold w_X10_end; rw [t2]; exact cls_in x Lt _ _
  refine c_X10_end (d := 39) hL rfl x ⟨_, rfl, ?_⟩
  rw [eC, eW]
  by_cases z : r_X11_isIn x (nI 0) (nI Lt) = true
  · rw [if_pos z, if_pos z]
    have t3' : gI (sI h 3 0 x) 59 8 = nI Lt := t3
    refine c_X11_end (d := 38) (h := sI h 3 0 x) hL rfl x ⟨?_, ?_⟩
    · unfold r_X11_end; rw [t3', if_pos z]
    · unfold w_X11_end
      rw [t3', if_pos z]
      obtain ⟨t, ht, e⟩ := (isIn_iff (by omega)).mp z
      subst e
      have g : ∀ b j, (b = 3 → j ≠ 0) → (b = 59 → j ≠ 8) → gI (sI (sI h 3 0 (nI t)) 59 8 (nI t)) b j = gI h b j := by
        intro b j f1 f2
        rw [gI_sI, if_neg (fun z => f2 z.1 z.2), gI_sI, if_neg (fun z => f1 z.1 z.2)]
      have gj : ∀ b j, gJ (sI (sI h 3 0 (nI t)) 59 8 (nI t)) b j = gJ h b j := fun _ _ => rfl
      have g0 : gI (sI (sI h 3 0 (nI t)) 59 8 (nI t)) 3 0 = nI t := rfl
      have g1 : gI (sI (sI h 3 0 (nI t)) 59 8 (nI t)) 59 8 = nI t := rfl
      have gt : (sI (sI h 3 0 (nI t)) 59 8 (nI t)).2.2 = h.2.2 := rfl
      generalize sI (sI h 3 0 (nI t)) 59 8 (nI t) = hh at *
      obtain ⟨r1, r2, r3, r4, r5, r6, r7⟩ := R
      refine ⟨⟨by rw [gt]; exact r1, ⟨t, tp, by omega, g0, g1, fun i hi => ?_⟩, ?_, fun j hj => ?_, r5.tr gt (fun b j u => g _ _ (by omega) (by omega)) (fun b j _ => gj b j) (fun j => g _ _ (by omega) (by omega)) (g _ _ (by omega) (by omega)), r6.tr gt, r7.tr gt (fun j => g _ _ (by omega) (by omega))⟩, C.tr (fun b j u => g _ _ (by omega) (by omega)) (fun b j _ _ => gj b j) (g _ _ (by omega) (by omega))⟩
      · rw [g _ _ (by omega) (by omega), g _ _ (by omega) (by omega)]
        exact t4 i (by omega)
      · unfold FL
        rw [g 2 0 (by omega) (by omega), g 2 1 (by omega) (by omega), g 59 15 (by omega) (by omega), g 59 16 (by omega) (by omega)]
        exact r3
      · rw [g _ _ (by omega) (by omega), g _ _ (by omega) (by omega)]
        exact r4 j hj
  · rw [if_neg z, if_neg z]
    refine c_X11_end (d := 38) hL rfl x ⟨?_, ?_⟩
    · unfold r_X11_end; rw [t3, if_neg z]
    · unfold w_X11_end; rw [t3, if_neg z]; exact I
end Easy2
