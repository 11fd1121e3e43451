theorem lastN_at (nm : Nat → Int32) : ∀ i, lastN nm i = 0 ∨ ¬ nm (lastN nm i - 1) = -1
  | 0 => Or.inl rfl
  | i + 1 => by
    unfold lastN
    by_cases q : nm i = -1
    · rw [if_pos q]; exact lastN_at nm i
    · rw [if_neg q]; exact Or.inr q
theorem sm_ems {n : Nat} {p : List Nat × List Nat} {m : Mv} (hp : pm n p.1) (h16 : n ≤ 16) (hs : sm p.2) : sm (ems p m).2 := by
  unfold ems
  split
  · exact hs
  · refine sm_app hs (fun x hx => ?_)
    rw [List.mem_singleton.mp hx]
    exact sm_getD (pm_sm hp h16) _
theorem sm_emS {n : Nat} (h0 : 0 < n) (h16 : n ≤ 16) : ∀ {s : List Mv} {p : List Nat × List Nat}, pm n p.1 → sgN n s → sm p.2 → sm (emS p s).2
  | [], _, _, _, h => h
  | m :: s, _, hp, hs, h => sm_emS (s := s) h0 h16 (pm_ems hp h0 (hs m List.mem_cons_self)) (fun x hx => hs x (List.mem_cons_of_mem _ hx)) (sm_ems hp h16 h)
theorem sm_itE {n : Nat} (h0 : 0 < n) (h16 : n ≤ 16) {s : List Mv} {p : List Nat × List Nat} (hp : pm n p.1) (hs : sgN n s) (h : sm p.2) : ∀ a, sm (itE s p a).2
  | 0 => h
  | a + 1 => sm_emS h0 h16 (pm_itE h0 hp hs a) hs (sm_itE h0 h16 hp hs h a)
theorem sm_Em {n : Nat} (h0 : 0 < n) (h16 : n ≤ 16) {s : List Mv} (hs : sgN n s) : sm (Em n s) := sm_itE h0 h16 (pm_range n) hs (fun x hx => (List.not_mem_nil hx).elim) 60
section LayC
variable {d : Nat} {T : HT} {h : Hp} {Q : Option Value → Hp → Prop} {n : Nat} {c : List Nat} {nm : Nat → Int32}
theorem s_layRows (hL : Lay T) (eT : h.2.2 = T) (hn : gI h 12 0 = nI n) (h0 : 0 < n) (h16 : n ≤ 16) (hc : sm c) (hc16 : c.length ≤ 16) (hd : gJ h 12 2 = lN (enc c)) {k : Nat} (hk : k < 4) {s : List Mv} (hG : SG h (20 + 2 * k) s) (hN : sgN n s)
    (K : ∀ h' : Hp, h'.2 = h.2 → (∀ b j, b ≠ 19 → gI h' b j = gI h b j) → (∀ j, j < min 30 (Em n s).length → gI h' 19 j = nI ((Em n s).getD j 0)) → Q (some (.int (nI (min 30 (Em n s).length)))) h') : Call (d + 3) MX8_layRows [.ref 12, .ref (20 + 2 * k)] h Q := by
  have h200 := hG.1
  have hI7 := isX7_song hL hk
  refine b_X8_layRows hL eT _ _ (isX8_12 hL) hI7 ?_
  rw [hn, home_enc h16]
  have done : ∀ (h1 : Hp) (a : Nat) (l : List Nat) (x : Int64), h1.2 = h.2 → (∀ b j, b ≠ 19 → gI h1 b j = gI h b j) → l <+: Em n s → l.length = 30 → (∀ j, j < 30 → gI h1 19 j = nI (l.getD j 0)) → L_X8_layRows_13 d 12 (20 + 2 * k) (nI 30) x (nI a) h1 Q := by
    intro h1 a l x t1 g1 pre hl z1
    have e : min 30 (Em n s).length = 30 := by have := pre.length_le; omega
    rw [e] at K
    have fin := K h1 t1 g1 (fun j hj => by rw [z1 j hj, pre_get pre (by omega)])
    exact b_X8_layRows_13 hL (e2T t1 eT) _ _ _ _ _ (isX8_12 hL) hI7 ⟨fun _ => ⟨fun z => absurd z (by decide), fun _ => fin⟩, fun _ => fin⟩
  refine upto 60 (fun a h1 => h1.2 = h.2 ∧ (∀ b j, b ≠ 19 → gI h1 b j = gI h b j) ∧ (Pm n s a 0).2.length ≤ 30 ∧ ∀ j, j < (Pm n s a 0).2.length → gI h1 19 j = nI ((Pm n s a 0).2.getD j 0)) (fun a h1 => L_X8_layRows_13 d 12 (20 + 2 * k) (nI (Pm n s a 0).2.length) (lN (enc (Pm n s a 0).1)) (nI a) h1 Q) ?_ ?_ 0 h (by decide) ⟨rfl, fun _ _ _ => rfl, Nat.zero_le _, fun j hj => absurd hj (Nat.not_lt_zero j)⟩
  · rintro a h1 ha ⟨t1, g1, l1, z1⟩ ih
    by_cases full : (Pm n s a 0).2.length = 30
    · rw [full]
      rw [full] at z1
      exact done h1 a _ _ t1 g1 (Pm_pre ha) full z1
    · refine b_X8_layRows_13 hL (e2T t1 eT) _ _ _ _ _ (isX8_12 hL) hI7 ⟨fun _ => ⟨fun _ => ?_, fun z => absurd (nI_lt (by omega) (by decide)) z⟩, fun z => absurd (nI_lt ha (by decide)) z⟩
      refine upto s.length (fun m h2 => h2.2 = h.2 ∧ (∀ b j, b ≠ 19 → gI h2 b j = gI h b j) ∧ (Pm n s a m).2.length ≤ 30 ∧ ∀ j, j < (Pm n s a m).2.length → gI h2 19 j = nI ((Pm n s a m).2.getD j 0)) (fun m h2 => L_X8_layRows_29 d 12 (20 + 2 * k) (nI (Pm n s a m).2.length) (lN (enc (Pm n s a m).1)) (nI a) (nI m) h2 Q) ?_ ?_ 0 h1 (Nat.zero_le _) ⟨t1, g1, l1, z1⟩
      · rintro m h2 hm ⟨t2, g2, l2, z2⟩ ih2
        have hpi := pm_Pm (n := n) h0 hN a m
        have pre := Pm_pre (n := n) (s := s) (a := a) (m := m) ha
        rw [Pm_succ hm] at ih2
        generalize Pm n s a m = P at *
        have hl := hpi.1
        have hsm := pm_sm hpi h16
        have hm0 := hN _ (gM_mem hm)
        obtain ⟨b1, b2, b3, b4, b5⟩ := mv_b hm0 h16
        have hm' : mvN n ((gM s m).1, (gM s m).2.1, (gM s m).2.2.1, 0) := ⟨hm0.1, Nat.zero_le _, hm0.2.2.1, fun e => ⟨(hm0.2.2.2 e).1, (hm0.2.2.2 e).2.1, rfl⟩⟩
        obtain ⟨e1, e2, e3, e4, e5⟩ := mv_b hm' h16
        obtain ⟨p1, p2⟩ := made_enc (c := c) hsm (by omega) (by omega) hc hc16 (by rw [hl]; exact hm')
        rw [hl] at p1 p2
        have emk : mv1 P.1 c ((gM s m).1, (gM s m).2.1, (gM s m).2.2.1, 0) = mk1 P.1 (gM s m) := by
          have ef : fits1 P.1 c ((gM s m).1, (gM s m).2.1, (gM s m).2.2.1, 0) = true := by
            unfold fits1
            rw [decide_eq_true (show ((gM s m).1, (gM s m).2.1, (gM s m).2.2.1, 0).2.2.2 = 0 from rfl), Bool.true_or]
          unfold mv1
          rw [if_pos ef]
          split <;> rfl
        rw [emk] at p2
        have f0 : gI h2 (20 + 2 * k) 0 = nI s.length := by rw [g2 _ _ (by omega)]; exact hG.2.1
        have f1 : gI h2 (20 + 2 * k + 1) m = nI (pk (gM s m)) := by rw [g2 _ _ (by omega)]; exact hG.2.2 m hm
        have f2 : gI h2 12 0 = nI n := by rw [g2 _ _ (by decide)]; exact hn
        have f3 : gJ h2 12 2 = lN (enc c) := by rw [gJ_e2 t2]; exact hd
        refine b_X8_layRows_29 hL (e2T t2 eT) _ _ _ _ _ _ (isX8_12 hL) hI7 ?_
        rw [f0, nI_clamp (by omega), f1, noask_pk b1 b2 b3, gJ_sI, f3, f2, gI_sI_ne (by decide), f2, p2, nI_add m 1, nI_add a 1]
        refine ⟨fun _ => ⟨fun lt => ⟨(inB_iff (by omega)).mpr (by omega), fun z => ⟨p1, ?_⟩, fun z => ?_⟩, fun lt => ?_⟩, fun q => absurd (nI_lt hm (by omega)) q⟩
        · have z : (gM s m).1 = 2 := (isTurn_pk e1).mp z
          have e : ems P (gM s m) = (mk1 P.1 (gM s m), P.2) := by unfold ems; rw [if_pos z]
          rw [e] at ih2
          exact ih2 h2 ⟨t2, g2, l2, z2⟩
        · have z : (gM s m).1 ≠ 2 := fun k => z ((isTurn_pk e1).mpr k)
          have lt : P.2.length < 30 := (nI_ltI (by omega) (by decide)).mp lt
          have e : ems P (gM s m) = (mk1 P.1 (gM s m), P.2 ++ [P.1.getD (gM s m).2.1 0]) := by unfold ems; rw [if_neg z]
          rw [e] at ih2
          have el : (P.2 ++ [P.1.getD (gM s m).2.1 0]).length = P.2.length + 1 := by rw [List.length_append, List.length_singleton]
          dsimp only at ih2
          rw [el] at ih2
          have efr : r_X4_from (nI (pk ((gM s m).1, (gM s m).2.1, (gM s m).2.2.1, 0))) = nI (gM s m).2.1 := from_pk e1 e2 e5
          rw [efr, get_enc hsm (by omega) b2, nI_clamp (by omega), nI_add _ 1]
          refine ⟨(inB_iff (by omega)).mpr lt, p1, ih2 _ ⟨t2, fun b j u => by rw [gI_sI_ne u]; exact g2 b j u, by omega, fun j hj => ?_⟩⟩
          rw [gI_sI_at]
          by_cases v : j = P.2.length
          · rw [if_pos v, v, app_get]
          · rw [if_neg v, z2 j (by omega), pre_get (List.prefix_append _ _) (by omega)]
        · have full : P.2.length = 30 := by
            have : ¬ P.2.length < 30 := fun u => lt (nI_lt u (by decide))
            omega
          rw [full]
          rw [full] at z2
          exact done h2 (a + 1) _ _ t2 g2 pre full z2
      · rintro h2 ⟨t2, g2, l2, z2⟩
        rw [Pm_next] at l2 z2 ⊢
        refine b_X8_layRows_29 hL (e2T t2 eT) _ _ _ _ _ _ (isX8_12 hL) hI7 ?_
        rw [g2 (20 + 2 * k) 0 (by omega), hG.2.1, nI_add a 1]
        exact ⟨fun q => absurd q (nI_nlt (Nat.le_refl _) (by omega)), fun _ => ih h2 ⟨t2, g2, l2, z2⟩⟩
  · rintro h1 ⟨t1, g1, l1, z1⟩
    rw [Pm_last] at l1 z1 ⊢
    have e : min 30 (Em n s).length = (Em n s).length := by omega
    rw [e] at K
    exact b_X8_layRows_13 hL (e2T t1 eT) _ _ _ _ _ (isX8_12 hL) hI7 ⟨fun z => absurd z (by decide), fun _ => K h1 t1 g1 z1⟩
def Rtl (c : List Nat) (f : Nat → Int32) (N : List Nat) (t : Nat) : Prop := ∀ x, x < 16 → (f x = -1 ∧ t.testBit x = false ∧ N.getD x 0 = c.getD x 0) ∨ ∃ v, v < 10 ∧ f x = nI v ∧ t.testBit x = true ∧ N.getD x 0 = v
theorem s_layC (hL : Lay T) (eT : h.2.2 = T) (hn : gI h 12 0 = nI n) (h4 : 4 ≤ n) (h16 : n ≤ 16) (vc : VL n c) (hd : gJ h 12 2 = lN (enc c)) (hnm : ∀ i, i < 30 → gI h 13 i = nm i) (vn : ∀ i, nm i = -1 ∨ ∃ v, v < 10 ∧ nm i = nI v) {k : Nat} (hk : k < 4) {s : List Mv} (hG : SG h (20 + 2 * k) s) (hN : sgN n s)
    (K : ∀ h' : Hp, h'.2 = h.2 → (∀ b j, b ≠ 19 → gI h' b j = gI h b j) → Q (some (.int (lyA n c nm (Em n s)))) h') : Call (d + 5) MX10_lay [.ref 1, .int (nI k)] h Q := by
  have hc := VL_sm vc
  have hc16 : c.length ≤ 16 := by have := vc.1; omega
  have hI7 := isX7_song hL hk
  have hE := sm_Em (n := n) (show 0 < n by omega) h16 hN
  refine b_X10_lay hL eT _ ⟨fun _ => ⟨k, rfl, hk, ?_⟩, fun z => absurd (isSongC_iff.mpr ⟨k, hk, rfl⟩) z⟩
  refine b_X8_strandsToDye hL eT _ _ (isX8_12 hL) hI7 ?_
  refine s_layRows (d := d + 1 - 1) hL eT hn (by omega) h16 hc hc16 hd hk hG hN (fun h1 t1 g1 z1 => ⟨_, rfl, e2T t1 eT, ?_⟩)
  rw [gJ_e2 t1, hd]
  have K1 := K h1 t1 g1
  generalize hEe : Em n s = E at *
  have main := upto 30 (fun i h2 => h2 = h1 ∧ ∀ j, j < i → ¬ nm j = -1 → j < E.length) (fun i h2 => ∀ (N : List Nat) (t : Nat) (f : Nat → Int32), N.length = 16 → sm N → t < 2 ^ 16 → Rtl c f N t → ld nm (fun i => E.getD i 0) i = some f → L_X8_strandsToDye_17 d 12 (20 + 2 * k) (nI (min 30 E.length)) (lN (enc N)) (nI t) (nI i) h2 (fun v h' => ∃ r, v = some (.int r) ∧ h'.2.2 = T ∧ Q (some (.int r)) h')) ?_ ?_ 0 h1 (by decide) ⟨rfl, fun j hj => by omega⟩
  · exact main c 0 (fun _ => -1) vc.1 hc (by decide) (fun x hx => Or.inl ⟨rfl, Nat.zero_testBit x, rfl⟩) rfl
  · rintro i h2 hi ⟨rfl, al⟩ ih N t f hN16 hNs ht rt eL
    have el1 : ld nm (fun i => E.getD i 0) (i + 1) = if nm i = -1 then some f else if ¬ f (E.getD i 0) = -1 ∧ ¬ f (E.getD i 0) = nm i then none else some (fun y => if y = E.getD i 0 then nm i else f y) := by
      show (ld nm (fun i => E.getD i 0) i).bind _ = _
      rw [eL]
      rfl
    have fail : ∀ r : Int32, r = -1 → lyA n c nm E = -1 → ∃ r', some (Value.int r) = some (Value.int r') ∧ h2.2.2 = T ∧ Q (some (.int r')) h2 := fun r er el => ⟨_, rfl, e2T t1 eT, by rw [er, ← el]; exact K1⟩
    have n13 : gI h2 (12 + 1) i = nm i := by rw [g1 _ _ (by decide)]; exact hnm i hi
    refine b_X8_strandsToDye_17 hL (e2T t1 eT) _ _ _ _ _ _ (isX8_12 hL) hI7 ?_
    rw [nI_clamp (by omega), n13, nI_add i 1]
    refine ⟨fun _ => ⟨(inB_iff (by omega)).mpr hi, fun z => ?_, fun z => ⟨fun lt => ?_, fun lt => ?_⟩⟩, fun q => absurd (nI_lt hi (by decide)) q⟩
    · rw [if_pos z] at el1
      refine ih h2 ⟨rfl, fun j hj ne => ?_⟩ N t f hN16 hNs ht rt el1
      by_cases v : j = i
      · rw [v] at ne; exact absurd z ne
      · exact al j (by omega) ne
    · have lt : i < min 30 E.length := (nI_ltI (by omega) (by omega)).mp lt
      have e19 : gI h2 (12 + 7) i = nI (E.getD i 0) := z1 i lt
      have hx := sm_getD hE i
      rw [if_neg z] at el1
      obtain ⟨v, hv, ev⟩ := (vn i).resolve_left z
      have al' : ∀ j, j < i + 1 → ¬ nm j = -1 → j < E.length := fun j hj ne => by
        by_cases y : j = i
        · omega
        · exact al j (by omega) ne
      rw [e19, ev]
      rw [ev] at el1
      generalize E.getD i 0 = x at *
      have put : (¬ (¬ f x = -1 ∧ ¬ f x = nI v)) → L_X8_strandsToDye_17 d 12 (20 + 2 * k) (nI (min 30 E.length)) (r_X6_with (lN (enc N)) (nI x) (nI v)) (nI t ||| nI 1 <<< (nI x &&& 31)) (nI (i + 1)) h2 (fun v h' => ∃ r, v = some (.int r) ∧ h'.2.2 = T ∧ Q (some (.int r)) h') := fun k2 => by
        rw [if_neg k2] at el1
        rw [with_enc hNs (by omega) (by omega) (by omega), shl1 hx, fa_or]
        refine ih h2 ⟨rfl, al'⟩ _ _ _ (by rw [List.length_set]; exact hN16) (sm_set hNs x v (by omega)) (Nat.or_lt_two_pow ht (Nat.pow_lt_pow_right (by decide) hx)) (fun y hy => ?_) el1
        rw [set_get (by omega), Nat.testBit_or, Nat.testBit_two_pow]
        by_cases w : y = x
        · rw [if_pos w, if_pos w, decide_eq_true w.symm, Bool.or_true]
          exact Or.inr ⟨v, hv, rfl, rfl, rfl⟩
        · rw [if_neg w, if_neg w, decide_eq_false (fun e => w e.symm), Bool.or_false]
          exact rt y hy
      refine ⟨(inB_iff (by omega)).mpr hi, fun z2 => put ?_, fun z2 => ⟨fun z3 => put ?_, fun z3 => fail _ rfl ?_⟩⟩
      · rintro ⟨w1, w2⟩
        rcases rt x hx with ⟨u1, _⟩ | ⟨u, hu, u1, u2, u3⟩
        · exact w1 u1
        · rw [← tb_nI hx] at u2
          exact (of_decide_eq_true u2) z2
      · rintro ⟨w1, w2⟩
        rcases rt x hx with ⟨u1, _⟩ | ⟨u, hu, u1, u2, u3⟩
        · exact w1 u1
        · rw [get_enc hNs (by omega) hx, u3] at z3
          exact w2 (u1.trans z3)
      · rcases rt x hx with ⟨u1, u2, u3⟩ | ⟨u, hu, u1, u2, u3⟩
        · have : tb (nI t) x = true := decide_eq_true z2
          rw [tb_nI hx, u2] at this
          exact absurd this (by decide)
        · rw [get_enc hNs (by omega) hx, u3] at z3
          have ne : ¬ nI u = -1 := fun e => (nI_m1 u (by omega)).mp e
          rw [u1, if_pos ⟨ne, z3⟩] at el1
          exact lyA_none (lastN_yes nm 30 i hi z) el1
    · have : ¬ i < min 30 E.length := fun u => lt (nI_lt u (by omega))
      have := lastN_yes nm 30 i hi z
      exact fail _ rfl (lyA_few (by omega))
  · rintro h2 ⟨rfl, al⟩ N t f hN16 hNs ht rt eL
    refine b_X8_strandsToDye_17 hL (e2T t1 eT) _ _ _ _ _ _ (isX8_12 hL) hI7 ⟨fun q => absurd q (by decide), fun _ => ?_⟩
    have rl := lastN_le nm 30
    have hR : lastN nm 30 ≤ E.length := by
      rcases lastN_at nm 30 with q | q
      · omega
      · by_cases z : lastN nm 30 = 0
        · omega
        · have := al (lastN nm 30 - 1) (by omega) q
          omega
    have eR : ld nm (fun i => E.getD i 0) (lastN nm 30) = some f := by
      have := ld_skip (nm := nm) (E := fun i => E.getD i 0) (i := lastN nm 30) (30 - lastN nm 30) (fun j a b => lastN_no nm 30 j a (by omega))
      rw [show lastN nm 30 + (30 - lastN nm 30) = 30 by omega, eL] at this
      exact this.symm
    rw [lyA_some hR eR] at K1
    have n0 : gI h2 12 0 = nI n := by rw [g1 _ _ (by decide)]; exact hn
    have d2 : gJ h2 12 2 = lN (enc c) := by rw [gJ_e2 t1]; exact hd
    refine b_X8_countUnlike (d := d + 2) hL (e2T t1 eT) _ _ (isX8_12 hL) ?_
    refine upto n (fun i h3 => h3 = h2) (fun i h3 => L_X8_countUnlike_5 (d + 2) 12 (lN (enc N)) (nI (fa_cnt (unl c f) i)) (nI i) h3 _) ?_ ?_ 0 h2 (Nat.zero_le _) rfl
    · rintro i h3 hi rfl ih
      refine b_X8_countUnlike_5 hL (e2T t1 eT) _ _ _ _ (isX8_12 hL) ?_
      have a1 := sm_getD hNs i
      have a2 := sm_getD hc i
      have c10 := vc.2.1 i
      rw [n0, d2, get_enc hNs (by omega) (by omega), get_enc hc hc16 (by omega), nI_add i 1, nI_add _ 1]
      refine ⟨fun _ => ⟨fun z => ?_, fun z => ?_⟩, fun q => absurd (nI_lt hi (by omega)) q⟩
      · have z := nI_inj (by omega) (by omega) z
        have : unl c f i = false := by
          refine decide_eq_false (fun w => ?_)
          rcases rt i (by omega) with ⟨u1, _⟩ | ⟨u, hu, u1, u2, u3⟩
          · exact w.1 u1
          · exact w.2 (by rw [u1, ← z, u3])
        rw [← fa_cnt_no this]
        exact ih _ rfl
      · have : unl c f i = true := by
          refine decide_eq_true ?_
          rcases rt i (by omega) with ⟨u1, u2, u3⟩ | ⟨u, hu, u1, u2, u3⟩
          · exact absurd (by rw [u3]) z
          · rw [u1]
            refine ⟨fun e => (nI_m1 u (by omega)).mp e, fun e => z (by rw [u3, e])⟩
        rw [← fa_cnt_yes this]
        exact ih _ rfl
    · rintro h3 rfl
      refine b_X8_countUnlike_5 hL (e2T t1 eT) _ _ _ _ (isX8_12 hL) ?_
      rw [n0]
      exact ⟨fun q => absurd q (nI_nlt (Nat.le_refl _) (by omega)), fun _ => ⟨_, rfl, e2T t1 eT, _, rfl, e2T t1 eT, K1⟩⟩
theorem op_lay {L : Nat} {xs : Nat → Int32} (I : Inv L xs h) (x : Int32) : Op MX10_lay MX11_lay [.int x] h (Inv L xs) := by
  obtain ⟨R, n, sl, c, q, nm, sg, w, v, rc, rm, hs⟩ := id I
  have hL := R.1
  have hb := RM.mb v rm
  obtain ⟨⟨v1, v2⟩, v3, v4, v5, v6, v7, v8⟩ := id v
  by_cases z : ∃ v, v < 4 ∧ x = nI v
  · obtain ⟨k, hk, e⟩ := z
    subst e
    refine s_layC (d := 34) hL rfl rc.1 v1 v2 v4 rc.2.2.1 rc.2.2.2.2.1 v6 hk (rc.2.2.2.2.2.1 k hk) (v7 k hk) (fun h1 t1 g1 => ⟨_, rfl, ?_⟩)
    have s1 : Scr h h1 := ⟨by rw [t1], fun b j u _ _ _ => g1 b j u, fun b j _ => gJ_e2 t1 b j⟩
    have I1 := I.scr s1
    refine s_layM (d := 36) (by rw [t1]; exact hL) rfl (hb.tr (fun j _ => g1 _ _ (by decide))) (fun i hi => by rw [g1 _ _ (by decide)]; exact rm.2.2.2.2.1 i hi) hk (fun h2 t2 g2 => ⟨rfl, I1.scr ⟨by rw [t2], fun b j _ _ u _ => g2 b j (by omega) (by omega) (by omega), fun b j _ => gJ_e2 t2 b j⟩⟩)
  · refine b_X10_lay (d := 34) hL rfl _ ⟨fun k => absurd (isSongC_iff.mp k) z, fun _ => ⟨_, rfl, ?_⟩⟩
    exact b_X11_lay (d := 36) hL rfl _ ⟨fun k => absurd (isSongM_iff.mp k) z, fun _ => ⟨rfl, I⟩⟩
end LayC
