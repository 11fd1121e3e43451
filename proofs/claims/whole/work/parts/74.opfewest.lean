section OpF
variable {d : Nat} {T : HT} {h : Hp} {Q : Option Value → Hp → Prop} {n : Nat} {t l : List Nat}
theorem FP.uniq {c a b a' b' : Nat} (f : FP l t c a b) (f' : FP l t c a' b') : a = a' ∧ b = b' := by
  obtain ⟨f1, f2, f3, f4, f5⟩ := f
  obtain ⟨g1, g2, g3, g4, g5⟩ := f'
  have e : a = a' := by
    rcases Nat.lt_trichotomy a a' with q | q | q
    · exact absurd f3 (g4 a b q f2)
    · exact q
    · exact absurd g3 (f4 a' b' q g2)
  subst e
  refine ⟨rfl, ?_⟩
  rcases Nat.lt_trichotomy b b' with q | q | q
  · exact absurd f3 (g5 b q)
  · exact q
  · exact absurd g3 (f5 b' q)
def FW (l t : List Nat) (y : Nat) (r : Int32) : Prop := (¬ l.Perm t ∧ r = -1) ∨ (l.Perm t ∧ ∃ c, IsL l t c ∧ ((y = 0 ∧ r = nI (t.length - c)) ∨ (y ≠ 0 ∧ c = t.length ∧ r = -1) ∨ (y ≠ 0 ∧ c < t.length ∧ ∃ a b, FP l t c a b ∧ r = if y = 1 then nI a else nI b)))
theorem FW.uniq {y : Nat} {r r' : Int32} (k : FW l t y r) (k' : FW l t y r') : r = r' := by
  rcases k with ⟨p, x⟩ | ⟨p, c, u, v⟩
  · rcases k' with ⟨p', x'⟩ | ⟨p', _⟩
    · rw [x, x']
    · exact absurd p' p
  · rcases k' with ⟨p', x'⟩ | ⟨p', c', u', v'⟩
    · exact absurd p p'
    · have e := u.uniq u'
      subst e
      rcases v with ⟨v1, v2⟩ | ⟨v1, v2, v3⟩ | ⟨v1, v2, a, b, f, v3⟩
      · rcases v' with ⟨w1, w2⟩ | ⟨w1, w2, w3⟩ | ⟨w1, w2, a', b', f', w3⟩
        · rw [v2, w2]
        · exact absurd v1 w1
        · exact absurd v1 w1
      · rcases v' with ⟨w1, w2⟩ | ⟨w1, w2, w3⟩ | ⟨w1, w2, a', b', f', w3⟩
        · exact absurd w1 v1
        · rw [v3, w3]
        · omega
      · rcases v' with ⟨w1, w2⟩ | ⟨w1, w2, w3⟩ | ⟨w1, w2, a', b', f', w3⟩
        · exact absurd w1 v1
        · omega
        · obtain ⟨e1, e2⟩ := f.uniq f'
          rw [v3, w3, e1, e2]
theorem s_fewestM (hL : Lay T) (eT : h.2.2 = T) (hn : gI h 60 0 = nI n) (n0 : 0 < n) (ht : t.length = n) (hl : l.length = n) (h7 : n ≤ 7) (dt : dg t) (dl : dg l) (hw : ∀ i, i < n → gI h 60 (920 + i) = nI (t.getD i 0)) (hs : ∀ i, i < n → ∃ s, s < 16 ∧ gI h 60 (42 + i) = nI s ∧ gI h 60 (10 + s) = nI (l.getD i 0)) {y : Nat} (hy : y ≤ 2) (K : ∀ (h' : Hp) (r : Int32), Fr h h' → FW l t y r → Q (some (.int r)) h') : Call (d + 3) MX11_fewest [.ref 59, .int (nI y)] h Q := by
  refine b_X11_fewest hL eT _ ⟨fun _ => ⟨fun z => absurd z (by rw [hn]; exact nI_nlt (by omega) (by decide)), fun _ => ?_⟩, fun z => absurd ((isIn_iff (by decide)).mpr ⟨y, hy, rfl⟩) z⟩
  rw [hn]
  refine s_laysFar (d := d) hL eT hn ht h7 dt hw (fun h1 E fr w al => ⟨rfl, e2T fr.1 eT, ?_⟩)
  have g60 : ∀ {h1 : Hp}, Fr h h1 → ∀ j, gI h1 60 j = gI h 60 j := fun fr j => fr.2 _ _ (by decide) (by decide) (by decide) (by decide) (by omega)
  refine upto n (fun i h3 => h3 = h1) (fun i h3 => L_X11_fewest_33 d (nI y) (nI n) (nI (pc (fun i => l.getD i 0) i)) (nI i) h3 Q) ?_ ?_ 0 h1 (Nat.zero_le _) rfl
  · rintro i h3 hi rfl ih
    obtain ⟨s, s1, s2, s3⟩ := hs i hi
    refine b_X11_fewest_33 hL (e2T fr.1 eT) _ _ _ _ ⟨fun _ => ?_, fun q => absurd (nI_lt hi (by omega)) q⟩
    rw [nI_add 42 i, nI_clamp (by omega), g60 fr, s2, nI_add 10 s, nI_clamp (by omega), g60 fr, s3, pk_mul, nI_add, nI_add]
    exact ⟨(inB_iff (by omega)).mpr (by omega), (inB_iff (by omega)).mpr (by omega), ih _ rfl⟩
  · rintro h3 rfl
    refine b_X11_fewest_33 hL (e2T fr.1 eT) _ _ _ _ ⟨fun q => absurd q (nI_nlt (Nat.le_refl _) (by omega)), fun _ => ?_⟩
    rw [show pc (fun i => l.getD i 0) n = cd l by unfold cd; rw [hl]]
    have far : ∀ {h1 : Hp} {m : List Nat} {r : Int32}, WT h1 t E → ((∃ e ∈ E, e.1 = m ∧ r = nI e.2.1) ∨ ((∀ e ∈ E, e.1 ≠ m) ∧ r = -1)) → Nd m t r := by
      intro h1 m r w k
      rcases k with ⟨e, he, q, er⟩ | ⟨no, er⟩
      · obtain ⟨ep, _, _, _, _, c, kc, sc⟩ := w.2.2.1 e he
        rw [q] at ep kc
        exact Or.inl ⟨ep, c, kc, by rw [er, ← sc, Nat.add_sub_cancel]⟩
      · exact Or.inr ⟨fun p => by obtain ⟨e, he, q⟩ := al m p; exact no e he q, er⟩
    refine s_farOf (d := d + 1) hL (e2T fr.1 eT) w (by omega) dt dl (by omega) (fun r k => ⟨r, rfl, e2T fr.1 eT, ?_⟩)
    rcases far w k with ⟨lp, c, kc, er⟩ | ⟨np, er⟩
    · have cl := kc.le
      subst er
      refine ⟨fun z => absurd z (fun z => (nI_m1 _ (by omega)).mp z), fun _ => ⟨fun z => ?_, fun z => ?_⟩⟩
      · exact K _ _ fr (Or.inr ⟨lp, c, kc, Or.inl ⟨(nI_eq0 (by omega)).mp z, rfl⟩⟩)
      · have y0 : y ≠ 0 := fun q => z (by rw [q]; exact nI_0)
        rcases Nat.lt_or_ge c t.length with cc | cc
        · obtain ⟨a, b, f⟩ := FP.ex lp kc cc
          obtain ⟨f1, f2, f3, f4, f5⟩ := id f
          have ab : a ≠ b := fun q => by
            rw [q, lift_self f2] at f3
            have := kc.uniq f3
            omega
          have one : ∀ (a' b' : Nat) (h1 : Hp), a' < n → b' < n → a' ≠ b' → Fr h h1 → WT h1 t E → (∀ h2 : Hp, Fr h h2 → WT h2 t E → IsL (liftL l a' b') t (c + 1) → Q (some (.int (if y = 1 then nI a' else nI b'))) h2) → (∀ h2 : Hp, Fr h h2 → WT h2 t E → ¬ IsL (liftL l a' b') t (c + 1) → L_X11_fewest_106 d (nI y) (nI n) (nI (cd l)) (nI (t.length - c)) (nI a') (nI (b' + 1)) h2 Q) → L_X11_fewest_106 d (nI y) (nI n) (nI (cd l)) (nI (t.length - c)) (nI a') (nI b') h1 Q := by
            intro a' b' h1 ha hb hab fr w yes no
            refine b_X11_fewest_106 hL (e2T fr.1 eT) _ _ _ _ _ _ ⟨fun _ => ⟨fun z => absurd (nI_inj (by omega) (by omega) z) hab, fun _ => ?_⟩, fun z => absurd (nI_lt hb (by omega)) z⟩
            refine s_liftedOf (d := d + 2) hL (e2T fr.1 eT) (by rw [g60 fr]; exact hn) hl h7 dl ha hb (fun h3 e3 g3 => ⟨_, rfl, e2T (e3.trans fr.1) eT, ?_⟩)
            have w3 := w.fr70 g3
            have fr3 := fr.trans (Fr.of70 e3 g3)
            refine s_farOf (d := d + 1) hL (e2T fr3.1 eT) w3 (by omega) dt (dg_perm dl (lift_perm (by omega) (by omega))) (by rw [len_lift (by omega) (by omega)]; omega) (fun r k => ⟨r, rfl, e2T fr3.1 eT, ?_⟩)
            have key := (far w3 k).one (c := c) lp (by omega) (by omega) (by omega) cc
            rw [nI_add]
            refine ⟨fun q => ?_, fun q => no h3 fr3 w3 (fun k => q (key.mpr k))⟩
            have := yes h3 fr3 w3 (key.mp q)
            refine ⟨fun z => ?_, fun z => ?_⟩
            · rw [if_pos (nI_inj (by omega) (by decide) z)] at this; exact this
            · rw [if_neg (fun q => z (by rw [q]))] at this; exact this
          have skip : ∀ (a' : Nat) (h1 : Hp), a' < n → Fr h h1 → L_X11_fewest_106 d (nI y) (nI n) (nI (cd l)) (nI (t.length - c)) (nI a') (nI (a' + 1)) h1 Q → L_X11_fewest_106 d (nI y) (nI n) (nI (cd l)) (nI (t.length - c)) (nI a') (nI a') h1 Q := by
            intro a' h1 ha fr k
            refine b_X11_fewest_106 hL (e2T fr.1 eT) _ _ _ _ _ _ ⟨fun _ => ⟨fun _ => ?_, fun z => absurd rfl z⟩, fun z => absurd (nI_lt ha (by omega)) z⟩
            rw [nI_add]; exact k
          have pos : 0 < nI (t.length - c) := (nI_gt0 (by omega)).mpr (by omega)
          refine upto a (fun i h1 => Fr h h1 ∧ WT h1 t E) (fun i h1 => L_X11_fewest_92 d (nI y) (nI n) (nI (cd l)) (nI (t.length - c)) (nI i) h1 Q) ?_ ?_ 0 _ (Nat.zero_le _) ⟨fr, w⟩
          · rintro i h1 hi ⟨fr, w⟩ ih
            refine b_X11_fewest_92 hL (e2T fr.1 eT) _ _ _ _ _ ⟨fun _ => ⟨fun _ => ?_, fun z => absurd pos z⟩, fun z => absurd (nI_lt (by omega) (by omega)) z⟩
            refine upto n (fun j h1 => Fr h h1 ∧ WT h1 t E) (fun j h1 => L_X11_fewest_106 d (nI y) (nI n) (nI (cd l)) (nI (t.length - c)) (nI i) (nI j) h1 Q) ?_ ?_ 0 h1 (Nat.zero_le _) ⟨fr, w⟩
            · rintro j h1 hj ⟨fr, w⟩ ih2
              by_cases q : i = j
              · subst q; exact skip i h1 hj fr (ih2 _ ⟨fr, w⟩)
              · exact one i j h1 (by omega) hj q fr w (fun h2 _ _ k => absurd k (f4 i j hi (by omega))) (fun h2 fr w _ => ih2 h2 ⟨fr, w⟩)
            · rintro h1 ⟨fr, w⟩
              refine b_X11_fewest_106 hL (e2T fr.1 eT) _ _ _ _ _ _ ⟨fun z => absurd z (nI_nlt (Nat.le_refl _) (by omega)), fun _ => ?_⟩
              rw [nI_add]
              exact ih h1 ⟨fr, w⟩
          · rintro h1 ⟨fr, w⟩
            refine b_X11_fewest_92 hL (e2T fr.1 eT) _ _ _ _ _ ⟨fun _ => ⟨fun _ => ?_, fun z => absurd pos z⟩, fun z => absurd (nI_lt (by omega) (by omega)) z⟩
            refine upto b (fun j h1 => Fr h h1 ∧ WT h1 t E) (fun j h1 => L_X11_fewest_106 d (nI y) (nI n) (nI (cd l)) (nI (t.length - c)) (nI a) (nI j) h1 Q) ?_ ?_ 0 h1 (Nat.zero_le _) ⟨fr, w⟩
            · rintro j h1 hj ⟨fr, w⟩ ih2
              by_cases q : a = j
              · subst q; exact skip a h1 (by omega) fr (ih2 _ ⟨fr, w⟩)
              · exact one a j h1 (by omega) (by omega) q fr w (fun h2 _ _ k => absurd k (f5 j hj)) (fun h2 fr w _ => ih2 h2 ⟨fr, w⟩)
            · rintro h1 ⟨fr, w⟩
              exact one a b h1 (by omega) (by omega) ab fr w (fun h2 fr w _ => K h2 _ fr (Or.inr ⟨lp, c, kc, Or.inr (Or.inr ⟨y0, cc, a, b, f, rfl⟩)⟩)) (fun h2 _ _ k => absurd f3 k)
        · have e : c = t.length := by omega
          refine b_X11_fewest_92 hL (e2T fr.1 eT) _ _ _ _ _ ⟨fun _ => ⟨fun z => absurd ((nI_gt0 (by omega)).mp z) (by omega), fun _ => ?_⟩, fun z => absurd (nI_lt n0 (by omega)) z⟩
          exact K _ _ fr (Or.inr ⟨lp, c, kc, Or.inr (Or.inl ⟨y0, e, rfl⟩)⟩)
    · subst er
      exact ⟨fun _ => K _ _ fr (Or.inl ⟨np, rfl⟩), fun z => absurd rfl z⟩
theorem enc_takeV {n : Nat} {q : List Nat} (v : VL n q) (h16 : n ≤ 16) : enc q = enc (q.take n) := by
  obtain ⟨v1, v2, v3⟩ := v
  have e := enc_app (q.take n) (q.drop n)
  rw [List.take_append_drop] at e
  rw [e, enc_zero (l := q.drop n) (fun x hx => ?_)]
  · omega
  · obtain ⟨i, hi, ei⟩ := List.getElem_of_mem hx
    have := v3 (n + i) (by omega)
    rw [← getD_drop, List.getD_eq_getElem?_getD, List.getElem?_eq_getElem hi] at this
    rw [← ei]; exact this
theorem dg_VL {n : Nat} {q : List Nat} (v : VL n q) : dg q := fun x hx => by
  obtain ⟨i, hi, ei⟩ := List.getElem_of_mem hx
  have := v.2.1 i
  rw [List.getD_eq_getElem?_getD, List.getElem?_eq_getElem hi] at this
  rw [← ei]; exact this
theorem op_fewest {L : Nat} {xs : Nat → Int32} (I : Inv L xs h) (x : Int32) : Op MX10_fewest MX11_fewest [.int x] h (Inv L xs) := by
  obtain ⟨R, n, sl, c, q, nm, sg, w, v, rc, rm, hs⟩ := id I
  obtain ⟨hL, rt, rf, rl, ri, rs, rx⟩ := R
  obtain ⟨⟨v1, v2⟩, v3, v4, v5, v6, v7, v8⟩ := id v
  by_cases z : ∃ y, y ≤ 2 ∧ x = nI y
  · obtain ⟨y, hy, e⟩ := z
    subst e
    by_cases h7 : n ≤ 7
    · have hp := v8.1
      have hsm := pm_sm hp v2
      have hl0 : (w.2.2.2.1.map (fun x => c.getD x 0)).length = n := by rw [List.length_map]; exact hp.1
      have ht0 : (q.take n).length = n := by rw [List.length_take]; have := v5.1; omega
      have dl : dg (w.2.2.2.1.map (fun x => c.getD x 0)) := fun x hx => by
        obtain ⟨y, _, e⟩ := List.mem_map.mp hx
        rw [← e]; exact v4.2.1 y
      have dt : dg (q.take n) := fun x hx => dg_VL v5 x (List.mem_of_mem_take hx)
      have M : ∀ (h1 : Hp) (r : Int32), h1.2 = h.2 → (∀ b j, b ≠ 49 → gI h1 b j = gI h b j) → LZ h1 → FW (w.2.2.2.1.map (fun x => c.getD x 0)) (q.take n) y r → Call 39 MX11_fewest [.ref 59, .int (nI y)] h1 (fun v' h2 => v' = some (.int r) ∧ Inv L xs h2) := by
        intro h1 r e1 g1 lz fw
        refine s_fewestM (d := 36) hL (e2T e1 rfl) (n := n) (by rw [g1 _ _ (by decide)]; exact rm.1) (by omega) ht0 hl0 h7 dt dl (fun i hi => ?_) (fun i hi => ?_) hy (fun h2 r' fr fw' => ⟨by rw [fw.uniq fw'], ?_⟩)
        · rw [g1 _ _ (by decide), getD_take _ _ _ hi]; exact rm.2.2.2.1 i (by omega)
        · have pi := hp.2.2.1 i hi
          refine ⟨w.2.2.2.1.getD i 0, by omega, ?_, ?_⟩
          · rw [g1 _ _ (by decide)]; exact rm.2.2.2.2.2.2.2 i (by rw [hp.1]; exact hi)
          · rw [g1 _ _ (by decide), rm.2.2.1 _ (by omega)]
            rw [List.getD_eq_getElem?_getD (l := w.2.2.2.1.map _), List.getElem?_map, List.getElem?_eq_getElem (by rw [hp.1]; exact hi), List.getD_eq_getElem?_getD (l := w.2.2.2.1), List.getElem?_eq_getElem (by rw [hp.1]; exact hi)]
            rfl
        · have e2 : h2.2 = h.2 := fr.1.trans e1
          have e22 : h2.2.2 = h.2.2 := by rw [e2]
          have g : ∀ b j, b ≠ 49 → b ≠ 67 → b ≠ 68 → b ≠ 69 → b ≠ 70 → (b = 59 → j ≠ 23) → gI h2 b j = gI h b j := fun b j a1 a2 a3 a4 a5 a6 => (fr.2 b j a2 a3 a4 a5 a6).trans (g1 b j a1)
          have gj : ∀ b j, gJ h2 b j = gJ h b j := fun b j => gJ_e2 e2 b j
          refine ⟨⟨by rw [e22]; exact hL, rt.tr (fun j => g _ _ (by omega) (by omega) (by omega) (by omega) (by omega) (by omega)) (fun j => g _ _ (by omega) (by omega) (by omega) (by omega) (by omega) (by omega)) (fun j => g _ _ (by omega) (by omega) (by omega) (by omega) (by omega) (by omega)) (g _ _ (by omega) (by omega) (by omega) (by omega) (by omega) (by omega)), ?_, fun j hj => ?_, ri.tr e22 (fun b j u => g _ _ (by omega) (by omega) (by omega) (by omega) (by omega) (by omega)) (fun b j _ => gj b j) (fun j => g _ _ (by omega) (by omega) (by omega) (by omega) (by omega) (by omega)) (g _ _ (by omega) (by omega) (by omega) (by omega) (by omega) (by omega)), rs.tr e22, rx.tr e22 (fun j => g _ _ (by omega) (by omega) (by omega) (by omega) (by omega) (by omega))⟩, Core.tr I.2 (fun b j u => g b j (by omega) (by omega) (by omega) (by omega) (by omega) (by omega)) (fun b j _ _ => gj b j) (g _ _ (by omega) (by omega) (by omega) (by omega) (by omega) (by omega))⟩
          · unfold FL
            rw [g _ _ (by omega) (by omega) (by omega) (by omega) (by omega) (by omega), g _ _ (by omega) (by omega) (by omega) (by omega) (by omega) (by omega), g _ _ (by omega) (by omega) (by omega) (by omega) (by omega) (by omega), g _ _ (by omega) (by omega) (by omega) (by omega) (by omega) (by omega)]
            exact rf
          · rw [fr.2 _ _ (by omega) (by omega) (by omega) (by omega) (by omega), fr.2 _ _ (by omega) (by omega) (by omega) (by omega) (by omega)]
            exact lz j hj
      generalize eL : w.2.2.2.1.map (fun x => c.getD x 0) = l at *
      have eq : gJ h 12 3 = lN (enc (q.take n)) := by rw [← enc_takeV v5 v2]; exact rc.2.2.2.1
      generalize q.take n = t at *
      refine b_X10_fewest (d := 34) hL rfl _ ⟨fun k => absurd k (nI_pos (by omega)), fun _ => ⟨fun k => absurd k (nI_nlt (by omega) (by decide)), fun _ => ⟨fun k => absurd k (by rw [rc.1]; exact nI_nlt (by omega) (by decide)), fun _ => ?_⟩⟩⟩
      have r15 : gJ h 15 0 = lN (enc w.2.2.2.1) := rc.2.2.2.2.2.2.1.1
      rw [r15]
      refine s_seen (d := 37) hL rfl (isX8_12 hL) rc.1 v2 hp.1 hsm (VL_sm v4) (by have := v4.1; omega) rc.2.2.1 ⟨_, rfl, rfl, ?_⟩
      rw [eL, eq, rc.1]
      refine s_needed (d := 35) hL rfl hl0 ht0 h7 dl dt rl (fun h1 r e1 g1 lz nd => ⟨r, rfl, by rw [e1], ?_⟩)
      refine ⟨fun k => ⟨fun _ => ?_, fun k' => absurd k k'⟩, fun k => ⟨fun k1 => ⟨fun k' => absurd k' k, fun _ => ?_⟩, fun k1 => ?_⟩⟩
      · have y0 := (nI_eq0 (show y < 2 ^ 31 by omega)).mp k
        refine ⟨_, rfl, M h1 r e1 g1 lz ?_⟩
        rcases nd with ⟨lp, cc, kc, er⟩ | ⟨np, er⟩
        · exact Or.inr ⟨lp, cc, kc, Or.inl ⟨y0, er⟩⟩
        · exact Or.inl ⟨np, er⟩
      · have y0 : y ≠ 0 := fun u => k (by rw [u]; exact nI_0)
        refine ⟨_, rfl, M h1 _ e1 g1 lz ?_⟩
        rcases nd with ⟨lp, cc, kc, er⟩ | ⟨np, er⟩
        · have := kc.le
          rw [er] at k1
          have := (nI_ltI (by omega) (by decide)).mp k1
          exact Or.inr ⟨lp, cc, kc, Or.inr (Or.inl ⟨y0, by omega, rfl⟩)⟩
        · exact Or.inl ⟨np, rfl⟩
      · have y0 : y ≠ 0 := fun u => k (by rw [u]; exact nI_0)
        rcases nd with ⟨lp, cc, kc, er⟩ | ⟨np, er⟩
        · have cl := kc.le
          rw [er] at k1
          have c1 : cc < n := by
            rcases Nat.lt_or_ge cc n with u | u
            · exact u
            · exact absurd (nI_lt (show t.length - cc < 1 by omega) (by decide)) k1
          obtain ⟨a, b, f⟩ := FP.ex lp kc (by omega)
          have f1 := f.1
          have f2 := f.2.1
          have e12 : gI h1 12 0 = nI n := by rw [g1 _ _ (by decide)]; exact rc.1
          have e13 : gJ h1 12 3 = lN (enc t) := by rw [gJ_e2 e1]; exact eq
          have ep : r_X4_packed (nI 0) (nI a) (nI b) (-1) = nI (pk (0, a, b, 0)) := packed_pk _ (by decide) (by omega) (by omega) (by omega) (by omega)
          have plt : pk (0, a, b, 0) < 16384 := by unfold pk; simp only; omega
          have efr : r_X4_from (nI (pk (0, a, b, 0))) = nI a := from_pk (m := (0, a, b, 0)) (show 0 < 4 by decide) (show a < 16 by omega) plt
          have eto : r_X4_to (nI (pk (0, a, b, 0))) = nI b := to_pk (m := (0, a, b, 0)) (show 0 < 4 by decide) (show a < 16 by omega) (show b < 16 by omega) plt
          rw [er, ht0, e12, e13]
          refine s_firstOf (d := 34) hL (by rw [e1]) hl0 ht0 h7 dl dt lz lp c1 f (fun h2 e2 g2 lz2 => ⟨_, rfl, by rw [e2, e1], ?_⟩)
          rw [ep, efr, eto]
          have M2 := fun r => M h2 r (e2.trans e1) (fun b j u => (g2 b j u).trans (g1 b j u)) lz2
          refine ⟨fun u => ⟨_, rfl, M2 _ (Or.inr ⟨lp, cc, kc, Or.inr (Or.inr ⟨y0, by omega, a, b, f, ?_⟩)⟩)⟩, fun u => ⟨_, rfl, M2 _ (Or.inr ⟨lp, cc, kc, Or.inr (Or.inr ⟨y0, by omega, a, b, f, ?_⟩)⟩)⟩⟩
          · rw [if_pos (nI_inj (by omega) (by decide) u)]
          · rw [if_neg (fun z => u (by rw [z]))]
        · exact absurd (by rw [er]; decide) k1
    · refine b_X10_fewest (d := 34) hL rfl _ ⟨fun k => absurd k (nI_pos (by omega)), fun _ => ⟨fun k => absurd k (nI_nlt (by omega) (by decide)), fun _ => ⟨fun _ => ⟨_, rfl, ?_⟩, fun k => absurd (by rw [rc.1]; exact nI_lt (by omega) (by omega)) k⟩⟩⟩
      exact b_X11_fewest (d := 36) hL rfl _ ⟨fun _ => ⟨fun _ => ⟨rfl, I⟩, fun k => absurd (by rw [rm.1]; exact nI_lt (by omega) (by omega)) k⟩, fun k => absurd ((isIn_iff (by decide)).mpr ⟨y, hy, rfl⟩) k⟩
  · have nM : ¬ r_X11_isIn x (nI 0) (nI 2) = true := fun k => z ((isIn_iff (by decide)).mp k)
    have mm : Call 39 MX11_fewest [.ref 59, .int x] h (fun v' h2 => v' = some (.int (-1)) ∧ Inv L xs h2) := b_X11_fewest (d := 36) hL rfl _ ⟨fun k => absurd k nM, fun _ => ⟨rfl, I⟩⟩
    refine b_X10_fewest (d := 34) hL rfl _ ⟨fun _ => ⟨_, rfl, mm⟩, fun k1 => ⟨fun _ => ⟨_, rfl, mm⟩, fun k2 => ?_⟩⟩
    obtain ⟨y, hy, e⟩ := nI_of k1
    rw [e] at k2
    refine absurd ⟨y, ?_, e⟩ z
    rcases Nat.lt_or_ge 2 y with u | u
    · exact absurd (nI_lt u hy) k2
    · exact u
end OpF
