-- back: the first singing behind which all is as at first
theorem itS_add (c : List Nat) (dr : Nat) (s : List Mv) (l : List Nat) (a : Nat) : ∀ b, itS c dr s l (a + b) = itS c dr s (itS c dr s l a) b
  | 0 => rfl
  | b + 1 => by
    show singD c dr (itS c dr s l (a + b)) s = singD c dr (itS c dr s (itS c dr s l a) b) s
    rw [itS_add c dr s l a b]
theorem itS_round {c : List Nat} {dr : Nat} {s : List Mv} {l : List Nat} {i m : Nat} (hm : m < i) (e : itS c dr s l i = itS c dr s l m) (no : ∀ j, 1 ≤ j → j ≤ i → itS c dr s l j ≠ l) : ∀ j, 1 ≤ j → itS c dr s l j ≠ l := by
  intro p hp ep
  by_cases hpi : p ≤ i
  · exact no p hp hpi ep
  · have a1 : itS c dr s l (i + (p - m)) = l := by rw [itS_add, e, ← itS_add, show m + (p - m) = p by omega, ep]
    have a2 : itS c dr s l (p + (i - m)) = itS c dr s l (i - m) := by rw [itS_add, ep]
    rw [show i + (p - m) = p + (i - m) by omega, a2] at a1
    exact no (i - m) (by omega) (by omega) a1
def Fst (P : Nat → Prop) (r : Int32) : Prop := (∃ m, 1 ≤ m ∧ m ≤ 5040 ∧ P m ∧ (∀ j, 1 ≤ j → j < m → ¬ P j) ∧ r = nI m) ∨ ((∀ j, 1 ≤ j → j ≤ 5040 → ¬ P j) ∧ r = -1)
theorem Fst_uniq {P R : Nat → Prop} {r r' : Int32} (e : ∀ j, P j ↔ R j) (a : Fst P r) (b : Fst R r') : r' = r := by
  rcases a with ⟨m, m1, m2, m3, m4, rfl⟩ | ⟨n1, rfl⟩
  · rcases b with ⟨k, k1, k2, k3, k4, rfl⟩ | ⟨n1, rfl⟩
    · have : m = k := by
        rcases Nat.lt_trichotomy m k with u | u | u
        · exact absurd ((e m).mp m3) (k4 m m1 u)
        · exact u
        · exact absurd ((e k).mpr k3) (m4 k k1 u)
      rw [this]
    · exact absurd ((e m).mp m3) (n1 m m1 m2)
  · rcases b with ⟨k, k1, k2, k3, k4, rfl⟩ | ⟨n2, rfl⟩
    · exact absurd ((e k).mpr k3) (n1 k k1 k2)
    · rfl
theorem ext_getD {l m : List Nat} (e : l.length = m.length) (q : ∀ i, i < l.length → l.getD i 0 = m.getD i 0) : l = m := by
  refine List.ext_getElem e (fun i h1 h2 => ?_)
  have := q i h1
  rw [List.getD_eq_getElem?_getD, List.getElem?_eq_getElem h1, List.getD_eq_getElem?_getD, List.getElem?_eq_getElem h2] at this
  exact this
theorem encL_iff {l m : List Nat} (hl : sm l) (hm : sm m) (e : l.length = m.length) (h16 : l.length ≤ 16) : (lN (enc l) = lN (enc m)) ↔ l = m := by
  refine ⟨fun q => ext_getD e (fun i hi => ?_), fun q => by rw [q]⟩
  have a := get_enc hl h16 (show i < 16 by omega)
  rw [q, get_enc hm (by omega) (by omega)] at a
  have := sm_getD hl i
  have := sm_getD hm i
  exact (nI_inj (by omega) (by omega) a).symm
theorem lcmp0 (x y : Int64) : (lg_cmp x y = 0) ↔ x = y := by
  unfold lg_cmp
  by_cases u : x > y
  · rw [if_pos u]
    refine ⟨fun z => absurd z (by decide), fun z => ?_⟩
    rw [z] at u
    have := (fa_lt64 y y).mp u
    omega
  · rw [if_neg u]
    by_cases v : x = y
    · rw [if_pos v]; exact ⟨fun _ => v, fun _ => rfl⟩
    · rw [if_neg v]; exact ⟨fun z => absurd z (by decide), fun z => absurd z v⟩
section Back
variable {d : Nat} {T : HT} {h : Hp} {Q : Option Value → Hp → Prop} {n : Nat}
theorem s_singingsBack (hL : Lay T) (eT : h.2.2 = T) {a : Nat} (hA : IsX7 T a) (h0 : 0 < n) (h16 : n ≤ 16) {l c : List Nat} (hl : l.length = n) (hsm : sm l) (hc : sm c) (hc16 : c.length ≤ 16) {s : List Mv} (hG : SG h a s) (hN : sgN n s) (K : ∀ r, Fst (fun j => itS c 16 s l j = l) r → Q (some (.int r)) h) : Call (d + 4) MX7_singingsBack [.ref a, .long (lN (enc l)), .long (lN (enc c)), .int (nI n)] h Q := by
  have ok := itS_ok (c := c) (dr := 16) hl hsm hN
  refine b_X7_singingsBack hL eT _ _ _ _ hA ?_
  have main := upto 5041 (fun i h1 => h1 = h ∧ 1 ≤ i ∧ ∀ j, 1 ≤ j → j < i → itS c 16 s l j ≠ l) (fun i h1 => ∀ m, m < i → L_X7_singingsBack_9 d a (lN (enc l)) (lN (enc c)) (nI n) (lN (enc (itS c 16 s l (i - 1)))) (lN (enc (itS c 16 s l m))) (nI i) h1 Q) ?_ ?_ 1 h (by decide) ⟨rfl, Nat.le_refl _, fun j a b => by omega⟩
  · exact main 0 (by decide)
  · rintro i h1 hi ⟨rfl, hi1, no⟩ ih m hm
    refine b_X7_singingsBack_9 hL eT _ _ _ _ _ _ _ hA ⟨fun z => absurd z (nI_nlt (by omega) (by decide)), fun _ => ?_⟩
    have e1 : singD c 16 (itS c 16 s l (i - 1)) s = itS c 16 s l i := by
      show itS c 16 s l (i - 1 + 1) = _
      rw [show i - 1 + 1 = i by omega]
    refine s_sungFrom (d := d) hL eT hA h0 h16 (ok (i - 1)).1 (ok (i - 1)).2 hc hc16 hG hN m1_dr ⟨_, rfl, eT, ?_⟩
    rw [e1, lcmp0, lcmp0, encL_iff (ok i).2 hsm (by rw [(ok i).1, hl]) (by rw [(ok i).1]; exact h16), encL_iff (ok i).2 (ok m).2 (by rw [(ok i).1, (ok m).1]) (by rw [(ok i).1]; exact h16), nI_add]
    refine ⟨fun z => K _ (Or.inl ⟨i, hi1, by omega, z, no, rfl⟩), fun z => ?_⟩
    have no' : ∀ j, 1 ≤ j → j ≤ i → itS c 16 s l j ≠ l := fun j a b => by
      by_cases u : j = i
      · rw [u]; exact z
      · exact no j a (by omega)
    refine ⟨fun y => K _ (Or.inr ⟨fun j a _ => itS_round hm y no' j a, rfl⟩), fun _ => ?_⟩
    have nx : ∀ m', m' < i + 1 → L_X7_singingsBack_9 d a (lN (enc l)) (lN (enc c)) (nI n) (lN (enc (itS c 16 s l i))) (lN (enc (itS c 16 s l m'))) (nI (i + 1)) h1 Q := ih h1 ⟨rfl, by omega, fun j a b => no' j a (by omega)⟩
    exact ⟨fun _ => nx i (by omega), fun _ => nx m (by omega)⟩
  · rintro h1 ⟨rfl, _, no⟩ m hm
    exact b_X7_singingsBack_9 hL eT _ _ _ _ _ _ _ hA ⟨fun _ => K _ (Or.inr ⟨fun j a b => no j a (by omega), rfl⟩), fun z => absurd (nI_lt (by decide) (by decide)) z⟩
-- a singing of colours in the place of strands
theorem map_getD {c t : List Nat} {i : Nat} (hi : i < t.length) : (t.map (fun x => c.getD x 0)).getD i 0 = c.getD (t.getD i 0) 0 := by
  rw [List.getD_eq_getElem?_getD, List.getElem?_map, List.getElem?_eq_getElem hi, List.getD_eq_getElem?_getD (l := t), List.getElem?_eq_getElem hi]
  rfl
theorem map_mk1 {c l : List Nat} {m : Mv} (hm : mvN l.length m) (h0 : 0 < l.length) : mk1 (l.map (fun x => c.getD x 0)) m = (mk1 l m).map (fun x => c.getD x 0) := by
  unfold mk1
  rw [List.length_map]
  by_cases q : m.1 = 2
  · rw [if_pos q, if_pos q]
    unfold turnL
    rw [List.length_map, List.map_append, List.map_drop, List.map_take]
  · have hab := hm.2.2.1 (by have := hm.1; omega)
    rw [if_neg q, if_neg q]
    by_cases z : m.1 = 0
    · rw [if_pos z, if_pos z]
      unfold liftL ins1 del1
      rw [map_getD hab.1]
      simp only [List.map_append, List.map_cons, List.map_drop, List.map_take]
    · rw [if_neg z, if_neg z]
      unfold swapL
      rw [map_getD hab.1, map_getD hab.2]
      simp only [List.map_set]
theorem map_mvd {c l : List Nat} {m : Mv} (hm : mvN l.length m) (h16 : l.length ≤ 16) (hs : sm l) (hc : sm c) : mvd (List.range 16) 16 (l.map (fun x => c.getD x 0)) m = (mvd c 16 l m).map (fun x => c.getD x 0) := by
  have hsm : sm (l.map (fun x => c.getD x 0)) := fun x hx => by
    obtain ⟨y, _, e⟩ := List.mem_map.mp hx
    rw [← e]; exact sm_getD hc y
  rw [mvd16 hs, mvd16 hsm]
  unfold mv1
  by_cases q : m.1 = 2
  · have h0 : 0 < l.length ∨ l = [] := by
      cases l with
      | nil => exact Or.inr rfl
      | cons a t => exact Or.inl (by rw [List.length_cons]; omega)
    rw [if_pos q, if_pos q]
    rcases h0 with h0 | h0
    · exact map_mk1 hm h0
    · rw [h0]
      unfold mk1
      rw [if_pos q, List.map_nil, if_pos q]
      unfold turnL
      simp only [List.drop_nil, List.take_nil, List.append_nil, List.map_nil]
  · have hab := hm.2.2.1 (by have := hm.1; omega)
    rw [if_neg q, if_neg q]
    have e : fits1 (l.map (fun x => c.getD x 0)) (List.range 16) m = fits1 l c m := by
      unfold fits1
      rw [map_getD hab.1, getD_range, if_pos (sm_getD hc _)]
    rw [e]
    by_cases z : fits1 l c m = true
    · rw [if_pos z, if_pos z]; exact map_mk1 hm (by omega)
    · rw [if_neg z, if_neg z]
theorem map_sing {n : Nat} {c : List Nat} (hc : sm c) (h16 : n ≤ 16) : ∀ {s : List Mv} {l : List Nat}, l.length = n → sm l → sgN n s → singD (List.range 16) 16 (l.map (fun x => c.getD x 0)) s = (singD c 16 l s).map (fun x => c.getD x 0)
  | [], _, _, _, _ => rfl
  | m :: s, l, hl, hs, hN => by
    have hm := hN m List.mem_cons_self
    show singD (List.range 16) 16 (mvd (List.range 16) 16 (l.map (fun x => c.getD x 0)) m) s = (singD c 16 (mvd c 16 l m) s).map (fun x => c.getD x 0)
    rw [map_mvd (by rw [hl]; exact hm) (by omega) hs hc]
    exact map_sing hc h16 (by rw [len_mvd (by rw [hl]; exact hm)]; exact hl) (sm_mvd hs c 16 m) (fun x hx => hN x (List.mem_cons_of_mem _ hx))
theorem map_itS {n : Nat} {c : List Nat} (hc : sm c) (h16 : n ≤ 16) {s : List Mv} {l : List Nat} (hl : l.length = n) (hs : sm l) (hN : sgN n s) : ∀ r, itS (List.range 16) 16 s (l.map (fun x => c.getD x 0)) r = (itS c 16 s l r).map (fun x => c.getD x 0)
  | 0 => rfl
  | r + 1 => by
    obtain ⟨a, b⟩ := itS_ok (c := c) (dr := 16) hl hs hN r
    show singD (List.range 16) 16 (itS (List.range 16) 16 s (l.map (fun x => c.getD x 0)) r) s = (singD c 16 (itS c 16 s l r) s).map (fun x => c.getD x 0)
    rw [map_itS hc h16 hl hs hN r, map_sing hc h16 a b hN]
theorem home16 : (-81985529216486896 : Int64) = lN (enc (List.range 16)) := by decide +kernel
theorem sm_range16 : sm (List.range 16) := fun x hx => List.mem_range.mp hx
-- the model's side
theorem s_isAsNow (hL : Lay T) (eT : h.2.2 = T) {c l l' : List Nat} (hn : gI h 60 0 = nI n) (h16 : n ≤ 16) (hC : MC h 60 c) (hc : sm c) (hl : l.length = n) (hsm : sm l) (hl' : l'.length = n) (hsm' : sm l') (hs : MS h l') (hr : MR h l) {y : Nat} (hy : y ≤ 1) (K : ∀ r : Bool, (r = true ↔ (if y = 0 then l' = l else l'.map (fun x => c.getD x 0) = l.map (fun x => c.getD x 0))) → Q (some (.int (b2i r))) h) : Call (d + 0) MX11_isAsNow [.ref 59, .int (nI y)] h Q := by
  have gm : ∀ (t : List Nat) i, i < t.length → (t.map (fun x => c.getD x 0)).getD i 0 = c.getD (t.getD i 0) 0 := fun t i hi => by
    rw [List.getD_eq_getElem?_getD, List.getElem?_map, List.getElem?_eq_getElem hi, List.getD_eq_getElem?_getD (l := t), List.getElem?_eq_getElem hi]
    rfl
  refine b_X11_isAsNow hL eT _ ?_
  refine upto n (fun i h1 => h1 = h ∧ ∀ j, j < i → (if y = 0 then l'.getD j 0 = l.getD j 0 else c.getD (l'.getD j 0) 0 = c.getD (l.getD j 0) 0)) (fun i h1 => L_X11_isAsNow_2 d (nI y) (nI i) h1 Q) ?_ ?_ 0 h (Nat.zero_le _) ⟨rfl, fun j hj => by omega⟩
  · rintro i h1 hi ⟨rfl, al⟩ ih
    have a1 := sm_getD hsm i
    have a2 := sm_getD hsm' i
    have a3 := sm_getD hc (l.getD i 0)
    have a4 := sm_getD hc (l'.getD i 0)
    refine b_X11_isAsNow_2 hL eT _ _ ?_
    rw [hn, nI_add, nI_clamp (by omega), nI_clamp (by omega), hr i (by omega), hs i (by omega)]
    simp (disch := omega) only [nI_add, nI_clamp]
    rw [hC _ a1, hC _ a2]
    refine ⟨fun _ => ⟨(inB_iff (by omega)).mpr (by omega), fun z => ⟨(inB_iff (by omega)).mpr (by omega), fun u => ?_, fun u => K false ?_⟩, fun z => ⟨(inB_iff (by omega)).mpr (by omega), (inB_iff (by omega)).mpr (by omega), (inB_iff (by omega)).mpr (by omega), fun u => ?_, fun u => K false ?_⟩⟩, fun z => absurd (nI_lt hi (by omega)) z⟩
    · have z : y = 0 := (nI_eq0 (by omega)).mp z
      refine ih h1 ⟨rfl, fun j hj => ?_⟩
      by_cases v : j = i
      · rw [if_pos z, v]; exact nI_inj (by omega) (by omega) u
      · exact al j (by omega)
    · have z : y = 0 := (nI_eq0 (by omega)).mp z
      rw [if_pos z]
      exact ⟨fun k => absurd k (by decide), fun k => absurd (by rw [k]) u⟩
    · have z : ¬ y = 0 := fun k => z (by rw [k]; rfl)
      refine ih h1 ⟨rfl, fun j hj => ?_⟩
      by_cases v : j = i
      · rw [if_neg z, v]; exact nI_inj (by omega) (by omega) u
      · exact al j (by omega)
    · have z : ¬ y = 0 := fun k => z (by rw [k]; rfl)
      rw [if_neg z]
      refine ⟨fun k => absurd k (by decide), fun k => absurd ?_ u⟩
      rw [← gm l' i (by omega), k, gm l i (by omega)]
  · rintro h1 ⟨rfl, al⟩
    refine b_X11_isAsNow_2 hL eT _ _ ?_
    rw [hn]
    refine ⟨fun z => absurd z (nI_nlt (Nat.le_refl _) (by omega)), fun _ => K true ⟨fun _ => ?_, fun _ => rfl⟩⟩
    by_cases z : y = 0
    · rw [if_pos z]
      exact ext_getD (by omega) (fun i hi => by have := al i (by omega); rw [if_pos z] at this; exact this)
    · rw [if_neg z]
      refine ext_getD (by rw [List.length_map, List.length_map]; omega) (fun i hi => ?_)
      rw [List.length_map] at hi
      have := al i (by omega)
      rw [if_neg z] at this
      rw [gm l' i (by omega), gm l i (by omega)]
      exact this
theorem s_backM (hL : Lay T) (eT : h.2.2 = T) {c l : List Nat} {sg : Nat → List Mv} (hb : MB h n c sg) (hp : pm n l) (hr : MR h l) {k y : Nat} (hk : k < 4) (hy : y ≤ 1) (K : ∀ (h' : Hp) r, h'.2 = h.2 → (∀ b j, b ≠ 65 → b ≠ 66 → gI h' b j = gI h b j) → Fst (fun j => if y = 0 then itS c 16 (sg k) l j = l else (itS c 16 (sg k) l j).map (fun x => c.getD x 0) = l.map (fun x => c.getD x 0)) r → Q (some (.int r)) h') : Call (d + 4) MX11_back [.ref 59, .int (nI k), .int (nI y)] h Q := by
  obtain ⟨c1, ⟨c2, c3⟩, ⟨c4, c5, c6⟩, c7⟩ := id hb
  have hN := (c7 k hk).2
  refine b_X11_back hL eT _ _ ⟨fun _ => ⟨fun _ => ?_, fun z => absurd ((isIn_iff (by decide)).mpr ⟨y, hy, rfl⟩) z⟩, fun z => absurd (isSongM_iff.mpr ⟨k, hk, rfl⟩) z⟩
  refine s_sitsW (d := d + 3) hL eT c3 c1 hp.1 hr (fun h0 e0 g0 s0 => ⟨rfl, e2T e0 eT, ?_⟩)
  have main := upto 5041 (fun i h1 => (h1.2 = h.2 ∧ (∀ b j, b ≠ 65 → b ≠ 66 → gI h1 b j = gI h b j) ∧ MS h1 (itS c 16 (sg k) l (i - 1))) ∧ 1 ≤ i ∧ ∀ j, 1 ≤ j → j < i → ¬ (if y = 0 then itS c 16 (sg k) l j = l else (itS c 16 (sg k) l j).map (fun x => c.getD x 0) = l.map (fun x => c.getD x 0))) (fun i h1 => L_X11_back_24 d (nI k) (nI y) (nI i) h1 Q) ?_ ?_ 1 h0 (by decide) ⟨⟨e0, g0, s0⟩, Nat.le_refl _, fun j a b => by omega⟩
  · exact main
  · rintro i h1 hi ⟨⟨e2, g, s⟩, hi1, no⟩ ih
    refine b_X11_back_24 hL (e2T e2 eT) _ _ _ ⟨fun z => absurd z (nI_nlt (by omega) (by decide)), fun _ => ?_⟩
    have hpi := itS_pm (c := c) (dr := 16) hp (by omega) hN i
    refine s_sings (d := d) (mi := 0) hL (e2T e2 eT) (hb.tr (fun j _ => g _ _ (by decide) (by decide))) (itS_pm hp (by omega) hN (i - 1)) s hk (by decide) m1_dr (fun h2 e3 g3 s3 => ⟨rfl, e2T (e3.trans e2) eT, ?_⟩)
    have e1 : singD c 16 (itS c 16 (sg k) l (i - 1)) (mrs n 0 (sg k)) = itS c 16 (sg k) l i := by
      show itS c 16 (sg k) l (i - 1 + 1) = _
      rw [show i - 1 + 1 = i by omega]
    rw [e1] at s3
    have g4 : ∀ b j, b ≠ 65 → b ≠ 66 → gI h2 b j = gI h b j := fun b j u v => by rw [g3 b j u v, g b j u v]
    refine s_isAsNow (d := d + 3) hL (e2T (e3.trans e2) eT) (by rw [g4 _ _ (by decide) (by decide)]; exact c1) c3 (fun s hs => by rw [g4 _ _ (by decide) (by decide)]; exact c4 s hs) c5 hp.1 (pm_sm hp c3) hpi.1 (pm_sm hpi c3) s3 (fun s hs => by rw [g4 _ _ (by decide) (by decide)]; exact hr s hs) hy (fun r hr' => ⟨_, rfl, e2T (e3.trans e2) eT, fun z => ?_, fun z => ?_⟩)
    · exact K h2 _ (e3.trans e2) g4 (Or.inl ⟨i, hi1, by omega, hr'.mp z, no, rfl⟩)
    · rw [nI_add]
      refine ih h2 ⟨⟨e3.trans e2, g4, s3⟩, by omega, fun j a b => ?_⟩
      by_cases u : j = i
      · rw [u]; exact fun v => z (hr'.mpr v)
      · exact no j a (by omega)
  · rintro h1 ⟨⟨e2, g, s⟩, hi1, no⟩
    exact b_X11_back_24 hL (e2T e2 eT) _ _ _ ⟨fun _ => K h1 _ e2 g (Or.inr ⟨fun j a b => no j a (by omega), rfl⟩), fun z => absurd (nI_lt (by decide) (by decide)) z⟩
theorem op_back {G : Hp → Prop} {sl : Nat} {c q : List Nat} {nm : Nat → Int32} {sg : Nat → List Mv} {w : Cd} (hL : Lay h.2.2) (v : VS n sl c q nm sg w) (rc : RC h 12 n sl c q nm sg w) (rm : RM h n sl c q nm sg w) (x1 x2 : Int32) (g : ∀ h', Scr h h' → G h') : Op MX10_back MX11_back [.int x1, .int x2] h G := by
  have hb := RM.mb v rm
  obtain ⟨⟨v1, v2⟩, v3, v4, v5, v6, v7, v8⟩ := v
  have gh := g h (Scr.rfl' h)
  by_cases z1 : ∃ v, v < 4 ∧ x1 = nI v
  · by_cases z3 : ∃ v, v ≤ 1 ∧ x2 = nI v
    · obtain ⟨k, hk, e1⟩ := z1
      obtain ⟨y, hy, e3⟩ := z3
      subst e1
      subst e3
      have hp := v8.1
      have hsm := pm_sm hp v2
      have hG : SG h (20 + 2 * k) (sg k) := rc.2.2.2.2.2.1 k hk
      have r15 : gJ h 15 0 = lN (enc w.2.2.2.1) := rc.2.2.2.2.2.2.1.1
      have hc16 : c.length ≤ 16 := by have := v4.1; omega
      have M : ∀ (P : Nat → Prop) (r : Int32), Fst P r → (∀ j, P j ↔ (if y = 0 then itS c 16 (sg k) w.2.2.2.1 j = w.2.2.2.1 else (itS c 16 (sg k) w.2.2.2.1 j).map (fun x => c.getD x 0) = w.2.2.2.1.map (fun x => c.getD x 0))) → Call 39 MX11_back [.ref 59, .int (nI k), .int (nI y)] h (fun v' h2 => v' = some (.int r) ∧ G h2) := by
        intro P r f e
        exact s_backM (d := 35) hL rfl hb hp rm.2.2.2.2.2.2.2 hk hy (fun h' r' e2 g2 f' => ⟨by rw [Fst_uniq e f f'], g h' (Scr.of e2 g2)⟩)
      refine b_X10_back (d := 34) hL rfl _ _ ⟨fun _ => ⟨fun z => absurd z (nI_pos (by omega)), fun _ => ⟨fun z => absurd z (nI_nlt hy (by decide)), fun _ => ⟨fun z => ⟨k, rfl, hk, ?_⟩, fun z => ⟨k, rfl, hk, ?_⟩⟩⟩⟩, fun z => absurd (isSongC_iff.mpr ⟨k, hk, rfl⟩) z⟩
      · have z : y = 0 := (nI_eq0 (by omega)).mp z
        rw [r15, rc.2.2.1, rc.1]
        refine s_singingsBack (d := 34) hL rfl (isX7_song hL hk) (by omega) v2 hp.1 hsm (VL_sm v4) hc16 hG (v7 k hk) (fun r f => ⟨_, rfl, rfl, _, rfl, M _ r f (fun j => ?_)⟩)
        rw [if_pos z]
      · have z : ¬ y = 0 := fun u => z (by rw [u]; rfl)
        rw [r15]
        refine s_seen (d := 37) hL rfl (isX8_12 hL) rc.1 v2 hp.1 hsm (VL_sm v4) hc16 rc.2.2.1 ⟨_, rfl, rfl, ?_⟩
        rw [home16, rc.1]
        have hsm2 : sm (w.2.2.2.1.map (fun x => c.getD x 0)) := fun x hx => by
          obtain ⟨y, _, e⟩ := List.mem_map.mp hx
          rw [← e]; exact sm_getD (VL_sm v4) y
        refine s_singingsBack (d := 34) hL rfl (isX7_song hL hk) (by omega) v2 (by rw [List.length_map]; exact hp.1) hsm2 sm_range16 (by rw [List.length_range]; exact Nat.le_refl _) hG (v7 k hk) (fun r f => ⟨_, rfl, rfl, _, rfl, M _ r f (fun j => ?_)⟩)
        rw [if_neg z, map_itS (VL_sm v4) v2 hp.1 hsm (v7 k hk)]
    · have nM : ¬ r_X11_isIn x2 (nI 0) (nI 1) = true := fun k => z3 ((isIn_iff (by decide)).mp k)
      refine b_X10_back (d := 34) hL rfl _ _ ⟨fun _ => ⟨fun _ => ?_, fun k1 => ⟨fun _ => ?_, fun k2 => ?_⟩⟩, fun _ => ?_⟩
      case refine_3 =>
        obtain ⟨t, ht, e⟩ := nI_of k1
        subst e
        exact absurd ⟨t, Nat.le_of_not_lt (fun u => k2 (nI_lt u ht)), rfl⟩ z3
      all_goals
        refine ⟨_, rfl, b_X11_back (d := 35) hL rfl _ _ ⟨fun _ => ⟨fun k => absurd k nM, fun _ => ⟨rfl, gh⟩⟩, fun _ => ⟨rfl, gh⟩⟩⟩
  · refine b_X10_back (d := 34) hL rfl _ _ ⟨fun k => absurd (isSongC_iff.mp k) z1, fun _ => ⟨_, rfl, ?_⟩⟩
    exact b_X11_back (d := 35) hL rfl _ _ ⟨fun k => absurd (isSongM_iff.mp k) z1, fun _ => ⟨rfl, gh⟩⟩
end Back
