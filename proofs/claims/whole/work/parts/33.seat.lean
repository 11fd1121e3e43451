-- the model's seats
theorem getD_app (l m : List Nat) (i : Nat) : (l ++ m).getD i 0 = if i < l.length then l.getD i 0 else m.getD (i - l.length) 0 := by
  rw [List.getD_eq_getElem?_getD, List.getD_eq_getElem?_getD, List.getD_eq_getElem?_getD, List.getElem?_append]
  split <;> rfl
theorem getD_take (l : List Nat) (k i : Nat) (h : i < k) : (l.take k).getD i 0 = l.getD i 0 := by
  rw [List.getD_eq_getElem?_getD, List.getD_eq_getElem?_getD, List.getElem?_take, if_pos h]
theorem getD_drop (l : List Nat) (k i : Nat) : (l.drop k).getD i 0 = l.getD (k + i) 0 := by
  rw [List.getD_eq_getElem?_getD, List.getD_eq_getElem?_getD, List.getElem?_drop]
theorem turnL_get {l : List Nat} {k s : Nat} (hk : k < l.length) (hs : s < l.length) : (turnL l k).getD s 0 = if s < k then l.getD (s + l.length - k) 0 else l.getD (s - k) 0 := by
  unfold turnL
  rw [getD_app, List.length_drop, show l.length - (l.length - k) = k by omega]
  split
  · rw [getD_drop]; congr 1; omega
  · rw [getD_take _ _ _ (by omega)]
theorem ins1_get {l : List Nat} {b x j : Nat} (hb : b ≤ l.length) : (ins1 l b x).getD j 0 = if j < b then l.getD j 0 else if j = b then x else l.getD (j - 1) 0 := by
  unfold ins1
  rw [getD_app, List.length_take, show min b l.length = b by omega]
  split
  · rw [getD_take _ _ _ (by omega)]
  · split
    · rename_i h; subst h; rw [Nat.sub_self]; rfl
    · rename_i h1 h2
      obtain ⟨q, hq⟩ : ∃ q, j - b = q + 1 := ⟨j - b - 1, by omega⟩
      rw [hq]
      show (l.drop b).getD q 0 = _
      rw [getD_drop]; congr 1; omega
theorem del1_get {l : List Nat} {a j : Nat} (ha : a < l.length) : (del1 l a).getD j 0 = if j < a then l.getD j 0 else l.getD (j + 1) 0 := by
  unfold del1
  rw [getD_app, List.length_take, show min a l.length = a by omega]
  split
  · rw [getD_take _ _ _ (by omega)]
  · rw [getD_drop]; congr 1; omega
theorem liftL_get {l : List Nat} {a b j : Nat} (ha : a < l.length) (hb : b < l.length) : (liftL l a b).getD j 0 = if j = b then l.getD a 0 else if a ≤ j ∧ j < b then l.getD (j + 1) 0 else if b < j ∧ j ≤ a then l.getD (j - 1) 0 else l.getD j 0 := by
  unfold liftL
  rw [ins1_get (by rw [len_del ha]; omega), del1_get ha, del1_get ha]
  by_cases h1 : j = b
  · subst h1; simp
  · rw [if_neg h1, if_neg h1]
    by_cases h2 : j < b
    · rw [if_pos h2]
      by_cases h3 : j < a
      · rw [if_pos h3, if_neg (by omega), if_neg (by omega)]
      · rw [if_neg h3, if_pos (by omega)]
    · rw [if_neg h2]
      by_cases h3 : j - 1 < a
      · rw [if_pos h3, if_neg (by omega), if_pos (by omega)]
      · rw [if_neg h3, if_neg (by omega), if_neg (by omega), show j - 1 + 1 = j by omega]
theorem set_get {l : List Nat} {a j v : Nat} (ha : a < l.length) : (l.set a v).getD j 0 = if j = a then v else l.getD j 0 := by
  rw [List.getD_eq_getElem?_getD, List.getD_eq_getElem?_getD, List.getElem?_set]
  by_cases h : j = a
  · subst h; rw [if_pos rfl, if_pos ha, if_pos rfl]; rfl
  · rw [if_neg (fun q => h q.symm), if_neg h]
theorem swapL_get {l : List Nat} {a b j : Nat} (ha : a < l.length) (hb : b < l.length) : (swapL l a b).getD j 0 = if j = b then l.getD a 0 else if j = a then l.getD b 0 else l.getD j 0 := by
  unfold swapL
  rw [set_get (by rw [List.length_set]; exact hb), set_get ha]
theorem addmod {s k n : Nat} (hs : s < n) (hk : k < n) : (s + k) % n = if s + k < n then s + k else s + k - n := by
  split
  · exact Nat.mod_eq_of_lt (by assumption)
  · rw [Nat.mod_eq_sub_mod (by omega), Nat.mod_eq_of_lt (by omega)]
/-- the row of seats holds l -/
def MS (h : Hp) (l : List Nat) : Prop := ∀ s, s < l.length → gI h 65 s = nI (l.getD s 0)
section Seat
variable {d : Nat} {T : HT} {h : Hp} {Q : Option Value → Hp → Prop}
theorem s_turns (hL : Lay T) (eT : h.2.2 = T) {l : List Nat} (hn : gI h 60 0 = nI l.length) (hs : MS h l) (h0 : 0 < l.length) (h16 : l.length ≤ 16) {k : Nat} (hk : k < l.length) (K : ∀ h' : Hp, h'.2 = h.2 → (∀ b j, b ≠ 65 → b ≠ 66 → gI h' b j = gI h b j) → MS h' (turnL l k) → Q none h') : Call (d + 0) MX11_turns [.ref 59, .int (nI k)] h Q := by
  refine b_X11_turns hL eT _ ?_
  rw [hn]
  refine upto l.length (fun i h1 => h1.2 = h.2 ∧ (∀ b j, b ≠ 66 → gI h1 b j = gI h b j) ∧ ∀ s, s < i → gI h1 66 ((s + k) % l.length) = nI (l.getD s 0)) (fun i h1 => L_X11_turns_9 d (nI k) (nI l.length) (nI i) h1 Q) ?_ ?_ 0 h (Nat.zero_le _) ⟨rfl, fun _ _ _ => rfl, fun s hs => absurd hs (Nat.not_lt_zero s)⟩
  · rintro i h1 hi ⟨e2, hg, ho⟩ ih
    have hm : (i + k) % l.length < l.length := Nat.mod_lt _ h0
    refine b_X11_turns_9 hL (e2T e2 eT) _ _ _ ⟨fun _ => ?_, fun c => absurd (nI_lt hi (by omega)) c⟩
    simp (disch := omega) only [nI_add, pk_mul, pk_sub, nI_clamp, nI_ltI, nI_leI, nI_eq, irem_nI, inB_iff, nI_lt0, nI_eq0, nI_gt0]
    refine ⟨by omega, by omega, by omega, ih _ ⟨e2, fun b j hb => ?_, fun s hs' => ?_⟩⟩
    · rw [gI_sI_ne hb]; exact hg b j hb
    · rw [gI_sI_at, hg 65 i (by decide), hs i hi]
      by_cases q : s = i
      · subst q; rw [if_pos rfl]
      · rw [if_neg]
        · exact ho s (by omega)
        · rw [addmod (by omega) hk, addmod hi hk]
          split <;> split <;> omega
  · rintro h1 ⟨e2, hg, ho⟩
    refine b_X11_turns_9 hL (e2T e2 eT) _ _ _ ⟨fun c => absurd c (nI_nlt (Nat.le_refl _) (by omega)), fun _ => ?_⟩
    have ho2 : ∀ s, s < l.length → gI h1 66 s = nI ((turnL l k).getD s 0) := by
      intro s hs'
      rw [turnL_get hk hs']
      split
      · have := ho (s + l.length - k) (by omega)
        rw [addmod (by omega) hk, if_neg (by omega), show s + l.length - k + k - l.length = s by omega] at this
        exact this
      · have := ho (s - k) (by omega)
        rw [addmod (by omega) hk, if_pos (by omega), show s - k + k = s by omega] at this
        exact this
    refine upto l.length (fun i h2 => h2.2 = h.2 ∧ (∀ b j, b ≠ 65 → gI h2 b j = gI h1 b j) ∧ ∀ s, s < i → gI h2 65 s = nI ((turnL l k).getD s 0)) (fun i h2 => L_X11_turns_38 d (nI l.length) (nI i) h2 Q) ?_ ?_ 0 h1 (Nat.zero_le _) ⟨e2, fun _ _ _ => rfl, fun s hs => absurd hs (Nat.not_lt_zero s)⟩
    · rintro i h2 hi ⟨e3, hg2, ho3⟩ ih
      refine b_X11_turns_38 hL (e2T e3 eT) _ _ ⟨fun _ => ?_, fun c => absurd (nI_lt hi (by omega)) c⟩
      simp (disch := omega) only [nI_add, pk_mul, pk_sub, nI_clamp, nI_ltI, nI_leI, nI_eq, irem_nI, inB_iff, nI_lt0, nI_eq0, nI_gt0]
      refine ⟨by omega, by omega, ih _ ⟨e3, fun b j hb => ?_, fun s hs' => ?_⟩⟩
      · rw [gI_sI_ne hb]; exact hg2 b j hb
      · rw [gI_sI_at]
        by_cases q : s = i
        · subst q; rw [if_pos rfl, hg2 66 s (by decide)]; exact ho2 s hi
        · rw [if_neg q]; exact ho3 s (by omega)
    · rintro h2 ⟨e3, hg2, ho3⟩
      refine b_X11_turns_38 hL (e2T e3 eT) _ _ ⟨fun c => absurd c (nI_nlt (Nat.le_refl _) (by omega)), fun _ => K h2 e3 (fun b j hb1 hb2 => ?_) (fun s hs' => ?_)⟩
      · rw [hg2 b j hb1, hg b j hb2]
      · rw [len_turn] at hs'
        exact ho3 s hs'
/-- how OVER changed: strand x went over those of Y, c times each -/
def OvC (h h' : Hp) (x : Nat) (Y : Nat → Prop) (c : Nat) : Prop := (∀ j, (j < 60 ∨ 316 ≤ j) → gI h' 60 j = gI h 60 j) ∧ ∀ u y, u < 16 → y < 16 → ((u = x ∧ Y y) → gI h' 60 (60 + 16 * u + y) = gI h 60 (60 + 16 * u + y) + nI c) ∧ (¬ (u = x ∧ Y y) → gI h' 60 (60 + 16 * u + y) = gI h 60 (60 + 16 * u + y))
theorem goesOver_eq {x y c : Nat} (hx : x < 16) (hy : y < 16) (hc : c < 2) (h : Hp) : p_X11_goesOver (nI x) (nI y) (nI c) h ∧ w_X11_goesOver (nI x) (nI y) (nI c) h = sI h 60 (60 + 16 * x + y) (gI h 60 (60 + 16 * x + y) + nI c) := by
  unfold p_X11_goesOver w_X11_goesOver
  simp (disch := omega) only [nI_add, pk_mul, pk_sub, nI_clamp, nI_ltI, nI_leI, nI_eq, irem_nI, inB_iff, nI_lt0, nI_eq0, nI_gt0]
  refine ⟨⟨by omega, fun _ => ⟨by omega, trivial⟩, fun _ => ⟨by omega, trivial⟩⟩, ?_⟩
  split
  · rename_i h0; rw [h0]
  · rw [show c = 1 by omega]
def passed (l : List Nat) (a b y : Nat) : Prop := ∃ t, ((a < t ∧ t ≤ b) ∨ (b ≤ t ∧ t < a)) ∧ l.getD t 0 = y
/-- no strand twice -/
def nd (l : List Nat) : Prop := ∀ i j, i < l.length → j < l.length → l.getD i 0 = l.getD j 0 → i = j
theorem s_lifts (hL : Lay T) (eT : h.2.2 = T) {l : List Nat} (hs : MS h l) (hsm : sm l) (hnd : nd l) (h16 : l.length ≤ 16) {a b c : Nat} (ha : a < l.length) (hb : b < l.length) (hc : c < 2) (K : ∀ h' : Hp, h'.2 = h.2 → (∀ x j, x ≠ 65 → x ≠ 60 → gI h' x j = gI h x j) → MS h' (liftL l a b) → OvC h h' (l.getD a 0) (passed l a b) c → Q none h') : Call (d + 1) MX11_lifts [.ref 59, .int (nI a), .int (nI b), .int (nI c)] h Q := by
  refine b_X11_lifts hL eT _ _ _ ?_
  have hxa := sm_getD hsm a
  simp (disch := omega) only [nI_add, pk_mul, pk_sub, nI_clamp, nI_ltI, nI_leI, nI_eq, irem_nI, inB_iff, nI_lt0, nI_eq0, nI_gt0]
  rw [hs a ha]
  refine ⟨by omega, fun hab => ?_, fun hab => ?_⟩
  · -- upwards
    refine upto b (fun i h1 => a ≤ i ∧ h1.2 = h.2 ∧ (∀ x j, x ≠ 65 → x ≠ 60 → gI h1 x j = gI h x j) ∧ (∀ j, j < l.length → gI h1 65 j = if a ≤ j ∧ j < i then nI (l.getD (j + 1) 0) else nI (l.getD j 0)) ∧ OvC h h1 (l.getD a 0) (passed l a i) c) (fun i h1 => L_X11_lifts_23 d (nI b) (nI c) (nI (l.getD a 0)) (nI 1) (nI i) h1 Q) ?_ ?_ a h (by omega) ⟨Nat.le_refl _, rfl, fun _ _ _ _ => rfl, fun j hj => by rw [if_neg (by omega)]; exact hs j hj, fun _ _ => rfl, fun u y _ _ => ⟨fun q => ?_, fun _ => rfl⟩⟩
    · rintro i h1 hi ⟨hai, e2, hg, ho, hov⟩ ih
      have hy := sm_getD hsm (i + 1)
      refine b_X11_lifts_23 hL (e2T e2 eT) _ _ _ _ _ ⟨fun q => absurd (nI_inj (by omega) (by omega) q) (by omega), fun _ => ?_⟩
      simp (disch := omega) only [nI_add, pk_mul, pk_sub, nI_clamp, nI_ltI, nI_leI, nI_eq, irem_nI, inB_iff, nI_lt0, nI_eq0, nI_gt0]
      have ev : gI (sI h1 65 i (gI h1 65 (i + 1))) 65 i = nI (l.getD (i + 1) 0) := by rw [gI_sI_at, if_pos rfl, ho (i + 1) (by omega), if_neg (by omega)]
      rw [ev]
      obtain ⟨p1, p2⟩ := goesOver_eq hxa hy hc (sI h1 65 i (gI h1 65 (i + 1)))
      refine ⟨by omega, by omega, by omega, p1, ?_⟩
      rw [p2]
      refine ih _ ⟨by omega, e2, fun x j h1' h2' => ?_, fun j hj => ?_, ?_⟩
      · rw [gI_sI_ne h2', gI_sI_ne h1']; exact hg x j h1' h2'
      · rw [gI_sI_ne (by decide), gI_sI_at]
        by_cases q : j = i
        · subst q; rw [if_pos rfl, if_pos (by omega), ho (j + 1) (by omega), if_neg (by omega)]
        · rw [if_neg q, ho j hj]
          by_cases q2 : a ≤ j ∧ j < i
          · rw [if_pos q2, if_pos (by omega)]
          · rw [if_neg q2, if_neg (by omega)]
      · refine ⟨fun j hj => ?_, fun u y hu hy' => ?_⟩
        · rw [gI_sI_at, if_neg (by omega), gI_sI_ne (by decide)]
          exact hov.1 j hj
        · rw [gI_sI_at, gI_sI_ne (by decide), gI_sI_ne (by decide)]
          by_cases q : 60 + 16 * u + y = 60 + 16 * l.getD a 0 + l.getD (i + 1) 0
          · have e1 : u = l.getD a 0 ∧ y = l.getD (i + 1) 0 := by omega
            rw [if_pos q, ← q]
            have hno : ¬ (u = l.getD a 0 ∧ passed l a i y) := by
              rintro ⟨-, t, ht, hty⟩
              have := hnd t (i + 1) (by omega) (by omega) (by rw [hty, e1.2])
              omega
            refine ⟨fun _ => by rw [(hov.2 u y hu hy').2 hno], fun hn => absurd ⟨e1.1, i + 1, Or.inl ⟨by omega, Nat.le_refl _⟩, e1.2.symm⟩ hn⟩
          · rw [if_neg q]
            refine ⟨fun hp => (hov.2 u y hu hy').1 ⟨hp.1, ?_⟩, fun hn => (hov.2 u y hu hy').2 (fun hp => hn ⟨hp.1, ?_⟩)⟩
            · obtain ⟨hu1, t, ht, hty⟩ := hp
              refine ⟨t, ?_, hty⟩
              rcases ht with ht | ht
              · left
                refine ⟨ht.1, ?_⟩
                rcases Nat.lt_or_ge i t with z | z
                · have : t = i + 1 := by omega
                  subst this
                  exfalso
                  apply q
                  rw [hty, hu1]
                · exact z
              · omega
            · obtain ⟨-, t, ht, hty⟩ := hp
              exact ⟨t, by omega, hty⟩
    · rintro h1 ⟨hai, e2, hg, ho, hov⟩
      refine b_X11_lifts_23 hL (e2T e2 eT) _ _ _ _ _ ⟨fun _ => ?_, fun q => absurd rfl q⟩
      simp (disch := omega) only [nI_add, pk_mul, pk_sub, nI_clamp, nI_ltI, nI_leI, nI_eq, irem_nI, inB_iff, nI_lt0, nI_eq0, nI_gt0]
      refine ⟨by omega, K _ e2 (fun x j h1' h2' => by rw [gI_sI_ne h1']; exact hg x j h1' h2') (fun j hj => ?_) ⟨fun j hj => by rw [gI_sI_ne (by decide)]; exact hov.1 j hj, fun u y hu hy' => by rw [gI_sI_ne (by decide)]; exact hov.2 u y hu hy'⟩⟩
      rw [len_lift ha hb] at hj
      rw [gI_sI_at, liftL_get ha hb]
      by_cases q : j = b
      · rw [if_pos q, if_pos q]
      · rw [if_neg q, if_neg q, ho j hj]
        split
        · rfl
        · rw [if_neg (by omega)]
    · obtain ⟨-, t, ht, -⟩ := q; omega
  · -- downwards
    refine upto (a - b) (fun i h1 => h1.2 = h.2 ∧ (∀ x j, x ≠ 65 → x ≠ 60 → gI h1 x j = gI h x j) ∧ (∀ j, j < l.length → gI h1 65 j = if a - i < j ∧ j ≤ a then nI (l.getD (j - 1) 0) else nI (l.getD j 0)) ∧ OvC h h1 (l.getD a 0) (passed l a (a - i)) c) (fun i h1 => L_X11_lifts_23 d (nI b) (nI c) (nI (l.getD a 0)) (-1) (nI (a - i)) h1 Q) ?_ ?_ 0 h (by omega) ⟨rfl, fun _ _ _ _ => rfl, fun j hj => by rw [if_neg (by omega)]; exact hs j hj, fun _ _ => rfl, fun u y _ _ => ⟨fun q => ?_, fun _ => rfl⟩⟩
    · rintro i h1 hi ⟨e2, hg, ho, hov⟩ ih
      obtain ⟨p, hp⟩ : ∃ p, a - i = p + 1 := ⟨a - i - 1, by omega⟩
      have hp1 : a - (i + 1) = p := by omega
      rw [hp1] at ih
      rw [hp] at ho hov ⊢
      have hy := sm_getD hsm p
      refine b_X11_lifts_23 hL (e2T e2 eT) _ _ _ _ _ ⟨fun q => absurd (nI_inj (by omega) (by omega) q) (by omega), fun _ => ?_⟩
      rw [pk_m1]
      simp (disch := omega) only [nI_add, pk_mul, pk_sub, nI_clamp, nI_ltI, nI_leI, nI_eq, irem_nI, inB_iff, nI_lt0, nI_eq0, nI_gt0]
      have ev : gI (sI h1 65 (p + 1) (gI h1 65 p)) 65 (p + 1) = nI (l.getD p 0) := by rw [gI_sI_at, if_pos rfl, ho p (by omega), if_neg (by omega)]
      rw [ev]
      obtain ⟨p1, p2⟩ := goesOver_eq hxa hy hc (sI h1 65 (p + 1) (gI h1 65 p))
      refine ⟨by omega, by omega, by omega, p1, ?_⟩
      rw [p2]
      refine ih _ ⟨e2, fun x j h1' h2' => ?_, fun j hj => ?_, ?_⟩
      · rw [gI_sI_ne h2', gI_sI_ne h1']; exact hg x j h1' h2'
      · rw [gI_sI_ne (by decide), gI_sI_at]
        by_cases q : j = p + 1
        · subst q; rw [if_pos rfl, if_pos (by omega), ho p (by omega), if_neg (by omega), show p + 1 - 1 = p by omega]
        · rw [if_neg q, ho j hj]
          by_cases q2 : p + 1 < j ∧ j ≤ a
          · rw [if_pos q2, if_pos (by omega)]
          · rw [if_neg q2, if_neg (by omega)]
      · refine ⟨fun j hj => ?_, fun u y hu hy' => ?_⟩
        · rw [gI_sI_at, if_neg (by omega), gI_sI_ne (by decide)]
          exact hov.1 j hj
        · rw [gI_sI_at, gI_sI_ne (by decide), gI_sI_ne (by decide)]
          by_cases q : 60 + 16 * u + y = 60 + 16 * l.getD a 0 + l.getD p 0
          · have e1 : u = l.getD a 0 ∧ y = l.getD p 0 := by omega
            rw [if_pos q, ← q]
            have hno : ¬ (u = l.getD a 0 ∧ passed l a (p + 1) y) := by
              rintro ⟨-, t, ht, hty⟩
              have := hnd t p (by omega) (by omega) (by rw [hty, e1.2])
              omega
            refine ⟨fun _ => by rw [(hov.2 u y hu hy').2 hno], fun hn => absurd ⟨e1.1, p, Or.inr ⟨Nat.le_refl _, by omega⟩, e1.2.symm⟩ hn⟩
          · rw [if_neg q]
            refine ⟨fun hp => (hov.2 u y hu hy').1 ⟨hp.1, ?_⟩, fun hn => (hov.2 u y hu hy').2 (fun hp => hn ⟨hp.1, ?_⟩)⟩
            · obtain ⟨hu1, t, ht, hty⟩ := hp
              refine ⟨t, ?_, hty⟩
              rcases Nat.lt_or_ge p t with z | z
              · omega
              · have : t = p := by omega
                subst this
                exfalso
                apply q
                rw [hty, hu1]
            · obtain ⟨-, t, ht, hty⟩ := hp
              exact ⟨t, by omega, hty⟩
    · rintro h1 ⟨e2, hg, ho, hov⟩
      have hab2 : a - (a - b) = b := by omega
      rw [hab2] at ho hov ⊢
      refine b_X11_lifts_23 hL (e2T e2 eT) _ _ _ _ _ ⟨fun _ => ?_, fun q => absurd rfl q⟩
      simp (disch := omega) only [nI_add, pk_mul, pk_sub, nI_clamp, nI_ltI, nI_leI, nI_eq, irem_nI, inB_iff, nI_lt0, nI_eq0, nI_gt0]
      refine ⟨by omega, K _ e2 (fun x j h1' h2' => by rw [gI_sI_ne h1']; exact hg x j h1' h2') (fun j hj => ?_) ⟨fun j hj => by rw [gI_sI_ne (by decide)]; exact hov.1 j hj, fun u y hu hy' => by rw [gI_sI_ne (by decide)]; exact hov.2 u y hu hy'⟩⟩
      rw [len_lift ha hb] at hj
      rw [gI_sI_at, liftL_get ha hb]
      by_cases q : j = b
      · rw [if_pos q, if_pos q]
      · rw [if_neg q, if_neg q, ho j hj, if_neg (show ¬ (a ≤ j ∧ j < b) by omega)]
        split <;> rfl
    · obtain ⟨-, t, ht, -⟩ := q; omega
theorem swaps_eq {l : List Nat} (hs : MS h l) (hsm : sm l) (hnd : nd l) (h16 : l.length ≤ 16) {a b c : Nat} (ha : a < l.length) (hb : b < l.length) (hc : c < 2) : p_X11_swaps (nI a) (nI b) (nI c) h ∧ (w_X11_swaps (nI a) (nI b) (nI c) h).2 = h.2 ∧ (∀ x j, x ≠ 65 → x ≠ 60 → gI (w_X11_swaps (nI a) (nI b) (nI c) h) x j = gI h x j) ∧ MS (w_X11_swaps (nI a) (nI b) (nI c) h) (swapL l a b) ∧ OvC h (w_X11_swaps (nI a) (nI b) (nI c) h) (l.getD a 0) (fun y => a ≠ b ∧ y = l.getD b 0) c := by
  have hxa := sm_getD hsm a
  have hxb := sm_getD hsm b
  obtain ⟨p1, p2⟩ := goesOver_eq hxa hxb hc h
  unfold p_X11_swaps w_X11_swaps
  simp (disch := omega) only [nI_add, pk_mul, pk_sub, nI_clamp, nI_ltI, nI_leI, nI_eq, irem_nI, inB_iff, nI_lt0, nI_eq0, nI_gt0]
  rw [hs a ha, hs b hb, p2]
  refine ⟨⟨by omega, fun _ => ⟨by omega, by omega, by omega, trivial⟩, fun _ => ⟨by omega, p1, by omega, by omega, by omega, trivial⟩⟩, ?_⟩
  by_cases q : a = b
  · rw [if_pos q]
    subst q
    refine ⟨rfl, fun x j h1 h2 => by rw [gI_sI_ne h1, gI_sI_ne h1], fun j hj => ?_, fun j hj => by rw [gI_sI_ne (by decide), gI_sI_ne (by decide)], fun u y _ _ => ⟨fun z => absurd rfl z.2.1, fun _ => by rw [gI_sI_ne (by decide), gI_sI_ne (by decide)]⟩⟩
    rw [len_swap] at hj
    rw [gI_sI_at, gI_sI_at, swapL_get ha ha]
    by_cases z : j = a
    · rw [if_pos z, if_pos z]
    · rw [if_neg z, if_neg z, if_neg z, if_neg z, hs j hj]
  · rw [if_neg q]
    refine ⟨rfl, fun x j h1 h2 => by rw [gI_sI_ne h1, gI_sI_ne h1, gI_sI_ne h2], fun j hj => ?_, fun j hj => by rw [gI_sI_ne (by decide), gI_sI_ne (by decide), gI_sI_at, if_neg (by omega)], fun u y hu hy => ?_⟩
    · rw [len_swap] at hj
      rw [gI_sI_at, gI_sI_at, gI_sI_ne (by decide), gI_sI_ne (by decide), swapL_get ha hb, hs b hb, hs j hj]
      by_cases z : j = b
      · rw [if_pos z, if_pos z]
      · rw [if_neg z, if_neg z]
        split <;> rfl
    · rw [gI_sI_ne (by decide), gI_sI_ne (by decide), gI_sI_at]
      by_cases z : 60 + 16 * u + y = 60 + 16 * l.getD a 0 + l.getD b 0
      · rw [if_pos z, ← z]
        exact ⟨fun _ => rfl, fun hn => absurd ⟨by omega, q, by omega⟩ hn⟩
      · rw [if_neg z]
        exact ⟨fun hp => absurd (by rw [hp.1, hp.2.2]) z, fun _ => rfl⟩
end Seat
