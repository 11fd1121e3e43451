-- which song was sung how often, by a cut end
def f3 (b : Bool) (k t : Nat) (z : Int32 × Int32 × Int32) : Int32 × Int32 × Int32 := if b = true then (z.1 + nI 1, if z.1 = 0 then nI k else z.2.1, if z.1 = 0 then nI t else z.2.2) else z
def ctI (B : Nat → Bool) (k : Nat) (z : Int32 × Int32 × Int32) : Nat → Int32 × Int32 × Int32
  | 0 => z
  | t + 1 => f3 (B t) k t (ctI B k z t)
def ctO (B : Nat → Nat → Bool) : Nat → Int32 × Int32 × Int32
  | 0 => (nI 0, -1, -1)
  | k + 1 => ctI (B k) k (ctO B k) 31
theorem enc_zero : ∀ {l : List Nat}, (∀ x ∈ l, x = 0) → enc l = 0
  | [], _ => rfl
  | a :: l, h => by
    show a + 16 * enc l = 0
    rw [h a List.mem_cons_self, enc_zero (fun x hx => h x (List.mem_cons_of_mem _ hx))]
theorem VL_take {n : Nat} {c : List Nat} (v : VL n c) : enc (c.take n) = enc c := by
  have e := enc_app (c.take n) (c.drop n)
  rw [List.take_append_drop] at e
  have z : enc (c.drop n) = 0 := enc_zero (fun x hx => by
    obtain ⟨i, hi, e⟩ := List.getElem_of_mem hx
    have := v.2.2 (n + i) (by omega)
    rw [← getD_drop, List.getD_eq_getElem?_getD, List.getElem?_eq_getElem hi, Option.getD_some] at this
    rw [← e, this])
  rw [z, Nat.mul_zero, Nat.add_zero] at e
  exact e.symm
theorem VL_len {n : Nat} {c : List Nat} (v : VL n c) (h16 : n ≤ 16) : (c.take n).length = n := by
  rw [List.length_take, v.1]
  omega
theorem map_range {n : Nat} {c : List Nat} (v : VL n c) (h16 : n ≤ 16) : (List.range n).map (fun x => c.getD x 0) = c.take n := by
  refine ext_getD (by rw [List.length_map, List.length_range, VL_len v h16]) (fun i hi => ?_)
  rw [List.length_map, List.length_range] at hi
  rw [map_getD (by rw [List.length_range]; exact hi), getD_range, if_pos hi, getD_take _ _ _ hi]
section Cut
variable {d : Nat} {T : HT} {h : Hp} {Q : Option Value → Hp → Prop} {n : Nat} {c q : List Nat}
theorem s_isWanted (hL : Lay T) (eT : h.2.2 = T) (hn : gI h 60 0 = nI n) (h16 : n ≤ 16) (hC : MC h 60 c) (hc : sm c) (hq : ∀ s, s < 16 → gI h 60 (920 + s) = nI (q.getD s 0)) (hqs : sm q) (hql : (q.take n).length = n) {l : List Nat} (hl : l.length = n) (hsm : sm l) (hs : MS h l) (K : Q (some (.int (b2i (decide (l.map (fun x => c.getD x 0) = q.take n))))) h) : Call (d + 0) MX11_isWanted [.ref 59] h Q := by
  refine b_X11_isWanted hL eT ?_
  refine upto n (fun i h1 => h1 = h ∧ ∀ j, j < i → c.getD (l.getD j 0) 0 = q.getD j 0) (fun i h1 => L_X11_isWanted_2 d (nI i) h1 Q) ?_ ?_ 0 h (Nat.zero_le _) ⟨rfl, fun j hj => by omega⟩
  · rintro i h1 hi ⟨rfl, al⟩ ih
    have a1 := sm_getD hsm i
    have a2 := sm_getD hc (l.getD i 0)
    have a3 := sm_getD hqs i
    refine b_X11_isWanted_2 hL eT _ ?_
    rw [hn, nI_clamp (by omega), hs i (by omega), nI_add, nI_add, nI_add, nI_clamp (by omega), nI_clamp (by omega), hC _ a1, hq i (by omega)]
    refine ⟨fun _ => ⟨(inB_iff (by omega)).mpr (by omega), (inB_iff (by omega)).mpr (by omega), (inB_iff (by omega)).mpr (by omega), fun z => ih _ ⟨rfl, fun j hj => ?_⟩, fun z => ?_⟩, fun z => absurd (nI_lt hi (by omega)) z⟩
    · by_cases v : j = i
      · rw [v]; exact nI_inj (by omega) (by omega) z
      · exact al j (by omega)
    · have ne : ¬ l.map (fun x => c.getD x 0) = q.take n := fun e => by
        have e2 := map_getD (c := c) (t := l) (i := i) (by omega)
        rw [e, getD_take _ _ _ hi] at e2
        exact z (by rw [e2])
      rw [decide_eq_false ne] at K
      exact K
  · rintro h1 ⟨rfl, al⟩
    refine b_X11_isWanted_2 hL eT _ ?_
    rw [hn]
    have e : l.map (fun x => c.getD x 0) = q.take n := by
      refine ext_getD (by rw [List.length_map, hql, hl]) (fun i hi => ?_)
      rw [List.length_map] at hi
      rw [map_getD hi, getD_take _ _ _ (by omega), al i (by omega)]
    rw [decide_eq_true e] at K
    exact ⟨fun z => absurd z (nI_nlt (Nat.le_refl _) (by omega)), fun _ => K⟩
theorem s_cutM {sg : Nat → List Mv} (hL : Lay T) (eT : h.2.2 = T) (hb : MB h n c sg) (hq : ∀ s, s < 16 → gI h 60 (920 + s) = nI (q.getD s 0)) (vq : VL n q) (y : Int32)
    (K : ∀ h' : Hp, h'.2 = h.2 → (∀ b j, b ≠ 65 → b ≠ 66 → gI h' b j = gI h b j) → Q (some (.int (r_X10_oneOfThree y (ctO (fun k t => decide ((itS c 16 (sg k) (List.range n) t).map (fun x => c.getD x 0) = q.take n)) 4).1 (ctO (fun k t => decide ((itS c 16 (sg k) (List.range n) t).map (fun x => c.getD x 0) = q.take n)) 4).2.1 (ctO (fun k t => decide ((itS c 16 (sg k) (List.range n) t).map (fun x => c.getD x 0) = q.take n)) 4).2.2))) h') : L_X11_cut_21 d y (nI 0) (-1) (-1) (nI 0) h Q := by
  obtain ⟨c1, ⟨c2, c3⟩, ⟨c4, c5, c6⟩, c7⟩ := id hb
  generalize hB : (fun k t => decide ((itS c 16 (sg k) (List.range n) t).map (fun x => c.getD x 0) = q.take n)) = B at K
  have hBe : ∀ k t, B k t = decide ((itS c 16 (sg k) (List.range n) t).map (fun x => c.getD x 0) = q.take n) := fun k t => by rw [← hB]
  refine upto 4 (fun k h1 => h1.2 = h.2 ∧ (∀ b j, b ≠ 65 → b ≠ 66 → gI h1 b j = gI h b j)) (fun k h1 => L_X11_cut_21 d y (ctO B k).1 (ctO B k).2.1 (ctO B k).2.2 (nI k) h1 Q) ?_ ?_ 0 h (by decide) ⟨rfl, fun _ _ _ _ => rfl⟩
  · rintro k h1 hk ⟨e2, g⟩ ih
    refine b_X11_cut_21 hL (e2T e2 eT) _ _ _ _ _ ⟨fun _ => ?_, fun z => absurd (nI_lt hk (by decide)) z⟩
    refine s_sitsAtFirst (d := d + 3) hL (e2T e2 eT) (by rw [g _ _ (by decide) (by decide)]; exact c1) c3 (fun h0 e0 g0 s0 => ⟨rfl, e2T (e0.trans e2) eT, ?_⟩)
    have hN := (c7 k hk).2
    have hpi := fun t => itS_pm (c := c) (dr := 16) (pm_range n) (by omega) hN t
    refine upto 31 (fun t h2 => h2.2 = h.2 ∧ (∀ b j, b ≠ 65 → b ≠ 66 → gI h2 b j = gI h b j) ∧ MS h2 (itS c 16 (sg k) (List.range n) (t - 1))) (fun t h2 => L_X11_cut_34 d y (ctI (B k) k (ctO B k) t).1 (ctI (B k) k (ctO B k) t).2.1 (ctI (B k) k (ctO B k) t).2.2 (nI k) (nI t) h2 Q) ?_ ?_ 0 h0 (by decide) ⟨e0.trans e2, fun b j u v => by rw [g0 b j u, g b j u v], s0⟩
    · rintro t h2 ht ⟨e3, g3, s3⟩ ih2
      have fin : ∀ h4 : Hp, h4.2 = h.2 → (∀ b j, b ≠ 65 → b ≠ 66 → gI h4 b j = gI h b j) → MS h4 (itS c 16 (sg k) (List.range n) t) → CallZ (d + 3) MX11_isWanted [.ref 59] h4 (fun r55 h55 => h55.2.2 = T ∧ (((r55 = true) → ((((ctI (B k) k (ctO B k) t).1 = 0) → ((((ctI (B k) k (ctO B k) t).1 = 0) → (L_X11_cut_34 d y ((ctI (B k) k (ctO B k) t).1 + nI 1) (nI k) (nI t) (nI k) (nI t + nI 1) h55 Q)) ∧ (¬ ((ctI (B k) k (ctO B k) t).1 = 0) → (L_X11_cut_34 d y ((ctI (B k) k (ctO B k) t).1 + nI 1) (nI k) (ctI (B k) k (ctO B k) t).2.2 (nI k) (nI t + nI 1) h55 Q)))) ∧ (¬ ((ctI (B k) k (ctO B k) t).1 = 0) → ((((ctI (B k) k (ctO B k) t).1 = 0) → (L_X11_cut_34 d y ((ctI (B k) k (ctO B k) t).1 + nI 1) (ctI (B k) k (ctO B k) t).2.1 (nI t) (nI k) (nI t + nI 1) h55 Q)) ∧ (¬ ((ctI (B k) k (ctO B k) t).1 = 0) → (L_X11_cut_34 d y ((ctI (B k) k (ctO B k) t).1 + nI 1) (ctI (B k) k (ctO B k) t).2.1 (ctI (B k) k (ctO B k) t).2.2 (nI k) (nI t + nI 1) h55 Q)))))) ∧ (¬ (r55 = true) → (L_X11_cut_34 d y (ctI (B k) k (ctO B k) t).1 (ctI (B k) k (ctO B k) t).2.1 (ctI (B k) k (ctO B k) t).2.2 (nI k) (nI t + nI 1) h55 Q)))) := by
        intro h4 e4 g4 s4
        refine s_isWanted (d := d + 3) hL (e2T e4 eT) (by rw [g4 _ _ (by decide) (by decide)]; exact c1) c3 (fun s hs => by rw [g4 _ _ (by decide) (by decide)]; exact c4 s hs) c5 (fun s hs => by rw [g4 _ _ (by decide) (by decide)]; exact hq s hs) (VL_sm vq) (VL_len vq c3) (hpi t).1 (pm_sm (hpi t) c3) s4 ⟨_, rfl, e2T e4 eT, fun z => ?_, fun z => ?_⟩
        · have hb1 : B k t = true := by rw [hBe]; exact z
          have nx := ih2 h4 ⟨e4, g4, s4⟩
          have eI : ctI (B k) k (ctO B k) (t + 1) = f3 true k t (ctI (B k) k (ctO B k) t) := by rw [← hb1]; rfl
          rw [eI] at nx
          generalize ctI (B k) k (ctO B k) t = z3 at *
          unfold f3 at nx
          rw [if_pos rfl] at nx
          rw [nI_add]
          refine ⟨fun u => ⟨fun _ => ?_, fun u2 => absurd u u2⟩, fun u => ⟨fun u2 => absurd u2 u, fun _ => ?_⟩⟩
          · rw [if_pos u, if_pos u] at nx; exact nx
          · rw [if_neg u, if_neg u] at nx; exact nx
        · have hb1 : B k t = false := by rw [hBe]; exact Bool.eq_false_iff.mpr z
          have nx := ih2 h4 ⟨e4, g4, s4⟩
          have eI : ctI (B k) k (ctO B k) (t + 1) = ctI (B k) k (ctO B k) t := by
            show f3 (B k t) k t (ctI (B k) k (ctO B k) t) = _
            rw [hb1]; unfold f3; rw [if_neg (by decide)]
          rw [eI] at nx
          rw [nI_add]
          exact nx
      refine b_X11_cut_34 hL (e2T e3 eT) _ _ _ _ _ _ ⟨fun z => absurd z (nI_nlt (by omega) (by decide)), fun _ => ⟨fun z => ?_, fun z => ?_⟩⟩
      · have z : 0 < t := (nI_gt0 (by omega)).mp z
        refine s_sings (d := d) (mi := 0) hL (e2T e3 eT) (hb.tr (fun j _ => g3 _ _ (by decide) (by decide))) (hpi (t - 1)) s3 hk (by decide) m1_dr (fun h4 e4 g4 s4 => ⟨rfl, e2T (e4.trans e3) eT, ?_⟩)
        have e1 : singD c 16 (itS c 16 (sg k) (List.range n) (t - 1)) (mrs n 0 (sg k)) = itS c 16 (sg k) (List.range n) t := by
          show itS c 16 (sg k) (List.range n) (t - 1 + 1) = _
          rw [show t - 1 + 1 = t by omega]
        rw [e1] at s4
        exact fin h4 (e4.trans e3) (fun b j u v => by rw [g4 b j u v, g3 b j u v]) s4
      · have z : t = 0 := by
          have : ¬ 0 < t := fun u => z ((nI_gt0 (by omega)).mpr u)
          omega
        subst z
        exact fin h2 e3 g3 s3
    · rintro h2 ⟨e3, g3, s3⟩
      refine b_X11_cut_34 hL (e2T e3 eT) _ _ _ _ _ _ ⟨fun _ => ?_, fun z => absurd (nI_lt (by decide) (by decide)) z⟩
      rw [nI_add]
      exact ih h2 ⟨e3, g3⟩
  · rintro h1 ⟨e2, g⟩
    have K := K h1 e2 g
    unfold r_X10_oneOfThree at K
    refine b_X11_cut_21 hL (e2T e2 eT) _ _ _ _ _ ⟨fun z => absurd z (by decide), fun _ => ⟨fun z => ?_, fun z => ⟨fun u => ?_, fun u => ?_⟩⟩⟩
    · rw [if_pos z] at K; exact K
    · rw [if_neg z, if_pos u] at K; exact K
    · rw [if_neg z, if_neg u] at K; exact K
theorem s_cutC {sg : Nat → List Mv} (hL : Lay T) (eT : h.2.2 = T) (h4 : 4 ≤ n) (h16 : n ≤ 16) (hn : gI h 12 0 = nI n) (vc : VL n c) (vq : VL n q) (hd : gJ h 12 2 = lN (enc c)) (hw : gJ h 12 3 = lN (enc q)) (hG : ∀ k, k < 4 → SG h (20 + 2 * k) (sg k)) (hN : ∀ k, k < 4 → sgN n (sg k)) (y : Int32)
    (K : Q (some (.int (r_X10_oneOfThree y (ctO (fun k t => decide ((itS c 16 (sg k) (List.range n) t).map (fun x => c.getD x 0) = q.take n)) 4).1 (ctO (fun k t => decide ((itS c 16 (sg k) (List.range n) t).map (fun x => c.getD x 0) = q.take n)) 4).2.1 (ctO (fun k t => decide ((itS c 16 (sg k) (List.range n) t).map (fun x => c.getD x 0) = q.take n)) 4).2.2))) h) : L_X10_cut_21 d y (nI 0) (-1) (-1) (nI 0) h Q := by
  have hc := VL_sm vc
  have hqs := VL_sm vq
  have sq : sm (q.take n) := sm_take hqs n
  have lq := VL_len vq h16
  generalize hB : (fun k t => decide ((itS c 16 (sg k) (List.range n) t).map (fun x => c.getD x 0) = q.take n)) = B at K
  have hBe : ∀ k t, B k t = decide ((itS c 16 (sg k) (List.range n) t).map (fun x => c.getD x 0) = q.take n) := fun k t => by rw [← hB]
  refine upto 4 (fun k h1 => h1 = h) (fun k h1 => L_X10_cut_21 d y (ctO B k).1 (ctO B k).2.1 (ctO B k).2.2 (nI k) h1 Q) ?_ ?_ 0 h (by decide) rfl
  · rintro k h1 hk rfl ih
    refine b_X10_cut_21 hL eT _ _ _ _ _ ⟨fun _ => ?_, fun z => absurd (nI_lt hk (by decide)) z⟩
    have ok := itS_ok (c := List.range 16) (dr := 16) (l := (List.range n).map (fun x => c.getD x 0)) (by rw [List.length_map, List.length_range]) (by rw [map_range vc h16]; exact sm_take hc n) (hN k hk)
    have e0 : gJ h1 12 2 = lN (enc (itS (List.range 16) 16 (sg k) ((List.range n).map (fun x => c.getD x 0)) 0)) := by
      rw [hd]
      show _ = lN (enc ((List.range n).map (fun x => c.getD x 0)))
      rw [map_range vc h16, VL_take vc]
    rw [e0]
    refine upto 31 (fun t h2 => h2 = h1) (fun t h2 => L_X10_cut_39 d y (ctI (B k) k (ctO B k) t).1 (ctI (B k) k (ctO B k) t).2.1 (ctI (B k) k (ctO B k) t).2.2 (nI k) (lN (enc (itS (List.range 16) 16 (sg k) ((List.range n).map (fun x => c.getD x 0)) t))) (nI t) h2 Q) ?_ ?_ 0 h1 (by decide) rfl
    · rintro t h2 ht rfl ih2
      have sg1 : ∀ X : Int64 → Hp → Prop, X (lN (enc (itS (List.range 16) 16 (sg k) ((List.range n).map (fun x => c.getD x 0)) (t + 1)))) h2 → ∃ k95 : Nat, nI k = nI k95 ∧ k95 < 4 ∧ CallJ (d + 3) MX7_sungFrom [.ref (20 + 2 * k95), .long (lN (enc (itS (List.range 16) 16 (sg k) ((List.range n).map (fun x => c.getD x 0)) t))), .long (-81985529216486896 : Int64), .int (gI h2 12 0), .int (-1)] h2 (fun r h' => h'.2.2 = T ∧ X r h') := by
        intro X hX
        refine ⟨k, rfl, hk, ?_⟩
        rw [hn, home16]
        exact s_sungFrom (d := d) hL eT (isX7_song hL hk) (by omega) h16 (ok t).1 (ok t).2 sm_range16 (by rw [List.length_range]; exact Nat.le_refl _) (hG k hk) (hN k hk) m1_dr ⟨_, rfl, eT, hX⟩
      have cmp : (lg_cmp (lN (enc (itS (List.range 16) 16 (sg k) ((List.range n).map (fun x => c.getD x 0)) t))) (gJ h2 12 3) = 0) ↔ B k t = true := by
        rw [lcmp0, hw, ← VL_take vq, encL_iff (ok t).2 sq (by rw [(ok t).1, lq]) (by rw [(ok t).1]; exact h16), map_itS hc h16 List.length_range (pm_sm (pm_range n) h16) (hN k hk), hBe, decide_eq_true_iff]
      have nx := ih2 h2 rfl
      refine b_X10_cut_39 hL eT _ _ _ _ _ _ _ ⟨fun z => absurd z (nI_nlt (by omega) (by decide)), fun _ => ?_⟩
      rw [cmp, nI_add]
      refine ⟨fun z => ?_, fun z => ?_⟩
      · have eI : ctI (B k) k (ctO B k) (t + 1) = f3 true k t (ctI (B k) k (ctO B k) t) := by rw [← z]; rfl
        rw [eI] at nx
        generalize ctI (B k) k (ctO B k) t = z3 at *
        unfold f3 at nx
        rw [if_pos rfl] at nx
        refine ⟨fun u => ⟨fun _ => sg1 (fun r h' => L_X10_cut_39 d y (z3.1 + nI 1) (nI k) (nI t) (nI k) r (nI (t + 1)) h' Q) ?_, fun u2 => absurd u u2⟩, fun u => ⟨fun u2 => absurd u2 u, fun _ => sg1 (fun r h' => L_X10_cut_39 d y (z3.1 + nI 1) z3.2.1 z3.2.2 (nI k) r (nI (t + 1)) h' Q) ?_⟩⟩
        · rw [if_pos u, if_pos u] at nx; exact nx
        · rw [if_neg u, if_neg u] at nx; exact nx
      · have z : B k t = false := Bool.eq_false_iff.mpr z
        have eI : ctI (B k) k (ctO B k) (t + 1) = ctI (B k) k (ctO B k) t := by
          show f3 (B k t) k t (ctI (B k) k (ctO B k) t) = _
          rw [z]; unfold f3; rw [if_neg (by decide)]
        rw [eI] at nx
        generalize ctI (B k) k (ctO B k) t = z3 at *
        exact sg1 (fun r h' => L_X10_cut_39 d y z3.1 z3.2.1 z3.2.2 (nI k) r (nI (t + 1)) h' Q) nx
    · rintro h2 rfl
      refine b_X10_cut_39 hL eT _ _ _ _ _ _ _ ⟨fun _ => ?_, fun z => absurd (nI_lt (by decide) (by decide)) z⟩
      rw [nI_add]
      exact ih h2 rfl
  · rintro h1 rfl
    exact b_X10_cut_21 hL eT _ _ _ _ _ ⟨fun z => absurd z (by decide), fun _ => K⟩
theorem op_cut {L : Nat} {xs : Nat → Int32} (I : Inv L xs h) (x : Int32) : Op MX10_cut MX11_cut [.int x] h (Inv L xs) := by
  obtain ⟨R, n, sl, c, q, nm, sg, w, v, rc, rm, hs⟩ := id I
  have hL := R.1
  have hb := RM.mb v rm
  obtain ⟨⟨v1, v2⟩, v3, v4, v5, v6, v7, v8⟩ := id v
  have iM := isIn_iff (x := x) (m := 2) (by decide)
  refine b_X10_cut (d := 35) hL rfl _ ⟨fun z => ⟨_, rfl, ?_⟩, fun z => ⟨fun z2 => ⟨_, rfl, ?_⟩, fun z2 => ?_⟩⟩
  · refine b_X11_cut (d := 35) hL rfl _ ⟨fun k => ?_, fun _ => ⟨rfl, I⟩⟩
    obtain ⟨t, ht, e⟩ := iM.mp k
    rw [e] at z
    exact absurd z (nI_pos (by omega))
  · refine b_X11_cut (d := 35) hL rfl _ ⟨fun k => ?_, fun _ => ⟨rfl, I⟩⟩
    obtain ⟨t, ht, e⟩ := iM.mp k
    rw [e] at z2
    exact absurd z2 (nI_nlt ht (by decide))
  · refine s_cutC hL rfl v1 v2 rc.1 v4 v5 rc.2.2.1 rc.2.2.2.1 (fun k hk => rc.2.2.2.2.2.1 k hk) v7 x ⟨_, rfl, b_X11_cut (d := 35) hL rfl _ ⟨fun _ => ?_, fun k => ?_⟩⟩
    · exact s_cutM hL rfl hb rm.2.2.2.1 v5 x (fun h' e2 g2 => ⟨rfl, I.scr (Scr.of e2 g2)⟩)
    · obtain ⟨t, ht, e⟩ := nI_of z
      subst e
      exact absurd (iM.mpr ⟨t, Nat.le_of_not_lt (fun u => z2 (nI_lt u ht)), rfl⟩) k
end Cut
