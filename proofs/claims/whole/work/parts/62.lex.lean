section Lex
variable {d : Nat} {T : HT} {h : Hp} {Q : Option Value → Hp → Prop} {tp : Nat → Nat} {n : Nat}
theorem run_D {f x : Nat} (hd : isDn (tp f) = true) (h1 : f ≤ x) (h2 : x < eR tp n f) : isDn (tp x) = true := by
  by_cases e : x = f
  · rw [e]; exact hd
  · have nl : ¬ isLn (tp f) = true := fun k => by
      have a := of_decide_eq_true hd
      have b := of_decide_eq_true k
      omega
    unfold eR at h2
    rw [if_neg nl, if_pos hd] at h2
    have := fa_first_no (fun x => !(isDn (tp (f + 1 + x)))) (n - (f + 1)) (x - (f + 1)) (by omega)
    rw [show f + 1 + (x - (f + 1)) = x by omega] at this
    cases hb : isDn (tp x) with
    | true => rfl
    | false => rw [hb] at this; exact absurd this (by decide)
theorem run_e {f : Nat} (hd : isDn (tp f) = true) (h2 : eR tp n f < n) : isDn (tp (eR tp n f)) = false := by
  have nl : ¬ isLn (tp f) = true := fun k => by
    have a := of_decide_eq_true hd
    have b := of_decide_eq_true k
    omega
  have e : eR tp n f = f + 1 + fa_first (fun x => !(isDn (tp (f + 1 + x)))) (n - (f + 1)) := by unfold eR; rw [if_neg nl, if_pos hd]
  rw [e] at h2 ⊢
  have := fa_first_yes (fun x => !(isDn (tp (f + 1 + x)))) (n - (f + 1)) (by omega)
  generalize f + 1 + fa_first (fun x => !(isDn (tp (f + 1 + x)))) (n - (f + 1)) = z at *
  cases hb : isDn (tp z) with
  | false => rfl
  | true => rw [hb] at this; exact absurd this (by decide)
theorem run_L {f x : Nat} (hd : isLn (tp f) = true) (h1 : f ≤ x) (h2 : x < eR tp n f) : isLn (tp x) = true := by
  by_cases e : x = f
  · rw [e]; exact hd
  · unfold eR at h2
    rw [if_pos hd] at h2
    have := fa_first_no (fun x => !(isLn (tp (f + 1 + x)))) (n - (f + 1)) (x - (f + 1)) (by omega)
    rw [show f + 1 + (x - (f + 1)) = x by omega] at this
    cases hb : isLn (tp x) with
    | true => rfl
    | false => rw [hb] at this; exact absurd this (by decide)
theorem run_Le {f : Nat} (hd : isLn (tp f) = true) (h2 : eR tp n f < n) : isLn (tp (eR tp n f)) = false := by
  have e : eR tp n f = f + 1 + fa_first (fun x => !(isLn (tp (f + 1 + x)))) (n - (f + 1)) := by unfold eR; rw [if_pos hd]
  rw [e] at h2 ⊢
  have := fa_first_yes (fun x => !(isLn (tp (f + 1 + x)))) (n - (f + 1)) (by omega)
  generalize f + 1 + fa_first (fun x => !(isLn (tp (f + 1 + x)))) (n - (f + 1)) = z at *
  cases hb : isLn (tp z) with
  | false => rfl
  | true => rw [hb] at this; exact absurd this (by decide)
theorem s_numberOfRun (hL : Lay T) (eT : h.2.2 = T) (t : TC h tp n) {f : Nat} (hf : f < n) (K : Q (some (.int (nI (nR tp f (eR tp n f))))) h) : Call (d + 1) MX9_numberOfRun [.ref 3, .int (nI f), .int (nI (eR tp n f))] h Q := by
  obtain ⟨t1, t2, t3, t4⟩ := t
  obtain ⟨e1, e2⟩ := eR_b (tp := tp) hf
  refine b_X9_numberOfRun hL eT _ _ ?_
  by_cases z : isDn (tp f) = true
  · unfold nR at K
    rw [if_pos z] at K
    refine upto (min (eR tp n f - f) 4) (fun i h1 => h1 = h) (fun i h1 => L_X9_numberOfRun_5 d (nI f) (nI (eR tp n f)) (nI (dv tp f i)) (nI (f + i)) h1 Q) ?_ ?_ 0 h (Nat.zero_le _) rfl
    · rintro i h1 hi rfl ih
      have hd := run_D (x := f + i) z (by omega) (show f + i < eR tp n f by omega)
      have hb := t3 (f + i) (by omega)
      have h48 := of_decide_eq_true hd
      have hdv := dv_le (f := f) (i := i) t3 (by omega) (by omega)
      refine b_X9_numberOfRun_5 hL eT _ _ _ _ ?_
      rw [nI_clamp (by omega), t4 (f + i) (by omega), sb_D hb, (sb_eq hb (show tp (f + i) < 128 by omega)).mpr rfl, pk_mul, nI_add _ (tp (f + i)), pk_sub (by omega), pk_sub (by omega), nI_add (f + i) 1]
      have ib : inB (nI (f + i)) 400 = true := (inB_iff (by omega)).mpr (by omega)
      refine ⟨fun _ => ⟨ib, fun _ => ⟨fun _ => ⟨ib, ?_⟩, fun q => absurd (nI_lt (by omega) (by decide)) q⟩, fun q => absurd hd q⟩, fun q => absurd (nI_lt (by omega) (by omega)) q⟩
      have e : dv tp f i * 10 + tp (f + i) - 48 = dv tp f (i + 1) := by
        show _ = dv tp f i * 10 + (tp (f + i) - 48)
        omega
      rw [e]
      exact ih _ rfl
    · rintro h1 rfl
      refine b_X9_numberOfRun_5 hL eT _ _ _ _ ?_
      refine ⟨fun q => ?_, fun _ => K⟩
      have q := (nI_ltI (by omega) (by omega)).mp q
      rw [nI_clamp (by omega), t4 _ (by omega), sb_D (t3 _ (by omega)), pk_sub (by omega)]
      exact ⟨(inB_iff (by omega)).mpr (by omega), fun _ => ⟨fun w => absurd w (nI_nlt (by omega) (by omega)), fun _ => K⟩, fun _ => K⟩
  · unfold nR at K
    rw [if_neg z] at K
    refine b_X9_numberOfRun_5 hL eT _ _ _ _ ?_
    rw [nI_clamp (by omega), t4 _ (by omega), sb_D (t3 _ (by omega))]
    exact ⟨fun _ => ⟨(inB_iff (by omega)).mpr (by omega), fun q => absurd q z, fun _ => K⟩, fun _ => K⟩
theorem addTok_eq {i : Nat} (hi : i ≤ 400) (hn : gI h 3 1 = nI i) (k p v : Int32) : p_X9_addToken k p v h ∧ w_X9_addToken k p v h = sI (sI (sI (sI h 4 i k) 5 i p) 6 i v) 3 1 (nI (i + 1)) := by
  unfold p_X9_addToken w_X9_addToken
  have e : ¬ nI 400 < gI h 3 1 := by rw [hn]; exact nI_nlt hi (by decide)
  rw [if_neg e]
  have ec : (gI h 3 1).toNatClampNeg = i := by rw [hn, nI_clamp (by omega)]
  have ib : inB (gI h 3 1) 401 = true := by rw [hn]; exact (inB_iff (by omega)).mpr (by omega)
  refine ⟨⟨fun q => absurd q e, fun _ => ⟨ib, ib, ib, trivial⟩⟩, ?_⟩
  have e1 : ∀ x, gI (sI h 4 x k) 3 1 = gI h 3 1 := fun x => gI_sI_ne (by decide)
  have e2 : ∀ x y z, gI (sI (sI h 4 x k) 5 y z) 3 1 = gI h 3 1 := fun x y z => by rw [gI_sI_ne (by decide), gI_sI_ne (by decide)]
  have e3 : ∀ x y z a b, gI (sI (sI (sI h 4 x k) 5 y z) 6 a b) 3 1 = gI h 3 1 := fun x y z a b => by rw [gI_sI_ne (by decide), gI_sI_ne (by decide), gI_sI_ne (by decide)]
  rw [e3, e2, e1, ec, hn, nI_add]
def tkA (h : Hp) (tp : Nat → Nat) (n i : Nat) : Prop := ∀ j, j < i → gI h 4 j = nI (tK tp n j) ∧ gI h 5 j = nI (tS tp n j) ∧ gI h 6 j = nI (tN tp n j)
theorem TC.tr {h h' : Hp} (t : TC h tp n) (g : gI h' 3 0 = gI h 3 0) (g7 : ∀ j, gI h' 7 j = gI h 7 j) : TC h' tp n := ⟨t.1, by rw [g]; exact t.2.1, t.2.2.1, fun i hi => by rw [g7]; exact t.2.2.2 i hi⟩
theorem s_findTokens (hL : Lay T) (eT : h.2.2 = T) (t : TC h tp n) (K : ∀ (h' : Hp) (i : Nat), h'.2 = h.2 → (∀ b j, b ≠ 4 → b ≠ 5 → b ≠ 6 → (b = 3 → j ≠ 1) → gI h' b j = gI h b j) → tS tp n i = n → (∀ j, j < i → tS tp n j < n) → i ≤ n → gI h' 3 1 = nI (i + 1) → tkA h' tp n (i + 1) → Q none h') : Call (d + 3) MX9_findTokens [.ref 3] h Q := by
  obtain ⟨t1, t2, t3, t4⟩ := id t
  refine b_X9_findTokens hL eT ?_
  have skip : ∀ k f x (h1 : Hp), h1.2 = h.2 → (∀ b j, b ≠ 4 → b ≠ 5 → b ≠ 6 → (b = 3 → j ≠ 1) → gI h1 b j = gI h b j) → f + k = x → x ≤ n → L_X9_findTokens_9 d (nI x) (nI x) h1 Q → L_X9_findTokens_9 d (nI x) (nI f) h1 Q := by
    intro k
    induction k with
    | zero =>
      intro f x h1 t1' g e hx hh
      have ef : f = x := by omega
      rw [ef]; exact hh
    | succ k ihk =>
      intro f x h1 t1' g e hx hh
      refine b_X9_findTokens_9 hL (e2T t1' eT) _ _ ?_
      rw [g 3 0 (by decide) (by decide) (by decide) (by decide), t2, nI_add f 1]
      refine ⟨fun _ => ⟨fun q => ?_, fun _ => ihk (f + 1) x h1 t1' g (by omega) hx hh⟩, fun q => absurd (nI_lt (by omega) (by omega)) q⟩
      have q := (nI_eq (by omega) (by omega)).mp q
      omega
  have main : ∀ m f i (h1 : Hp), n - f ≤ m → f ≤ n → ps tp n i ≤ f → f ≤ tS tp n i → (∀ j, j < i → tS tp n j < n) → h1.2 = h.2 → (∀ b j, b ≠ 4 → b ≠ 5 → b ≠ 6 → (b = 3 → j ≠ 1) → gI h1 b j = gI h b j) → gI h1 3 1 = nI i → tkA h1 tp n i → L_X9_findTokens_9 d (nI f) (nI f) h1 Q := by
    intro m
    induction m with
    | zero =>
      intro f i h1 hm hfn hp hs al t1' g c a
      have ef : f = n := by omega
      have es : tS tp n i = n := by have := (tS_b (tp := tp) (n := n) i).2; omega
      have ip := ps_ge (tp := tp) i al
      have hpn := ps_b (tp := tp) (n := n) i
      obtain ⟨p1, p2⟩ := addTok_eq (h := h1) (i := i) (by omega) c (nI 0) (nI n) (nI 0)
      refine b_X9_findTokens_9 hL (e2T t1' eT) _ _ ?_
      rw [g 3 0 (by decide) (by decide) (by decide) (by decide), t2, ef]
      refine ⟨fun q => absurd q (nI_nlt (Nat.le_refl _) (by omega)), fun _ => ⟨p1, ?_⟩⟩
      rw [p2]
      refine K _ i t1' (fun b j u1 u2 u3 u4 => ?_) es al (by omega) rfl (fun j hj => ?_)
      · rw [gI_sI, if_neg (fun q => u4 q.1 q.2), gI_sI_ne u3, gI_sI_ne u2, gI_sI_ne u1]; exact g b j u1 u2 u3 u4
      · rw [gI_sI_ne (by decide), gI_sI_ne (by decide), gI_sI_ne (by decide), gI_sI_at, gI_sI_ne (by decide), gI_sI_ne (by decide), gI_sI_at, gI_sI_ne (by decide), gI_sI_ne (by decide), gI_sI_at, gI_sI_ne (by decide), gI_sI_ne (by decide)]
        by_cases v : j = i
        · rw [if_pos v, if_pos v, if_pos v, v, es, tK_0.mpr es]
          refine ⟨rfl, rfl, ?_⟩
          unfold tN
          rw [if_neg (by omega)]
        · rw [if_neg v, if_neg v, if_neg v]
          exact a j (by omega)
    | succ m ihm =>
      intro f i h1 hm hfn hp hs al t1' g c a
      by_cases ef : f = n
      · exact ihm f i h1 (by omega) hfn hp hs al t1' g c a
      · have hf : f < n := by omega
        have ip := ps_ge (tp := tp) i al
        have tc : TC h1 tp n := t.tr (g _ _ (by decide) (by decide) (by decide) (by decide)) (fun j => g _ _ (by decide) (by decide) (by decide) (by omega))
        obtain ⟨e1, e2⟩ := eR_b (tp := tp) hf
        refine b_X9_findTokens_9 hL (e2T t1' eT) _ _ ?_
        rw [tc.2.1, nI_add f 1]
        refine ⟨fun _ => ⟨fun _ => ?_, fun q => absurd rfl q⟩, fun q => absurd (nI_lt hf (by omega)) q⟩
        refine s_endOfRun (d := d + 1) hL (e2T t1' eT) tc hf ⟨_, rfl, e2T t1' eT, (inB_iff (by omega)).mpr (by omega), ?_⟩
        rw [nI_clamp (by omega), tc.2.2.2 f hf, sb_B (t3 f hf)]
        refine ⟨fun q => ?_, fun q => ?_⟩
        · have el : eR tp n f = f + 1 := by
            have b := of_decide_eq_true q
            have nl : ¬ isLn (tp f) = true := fun k => by have := of_decide_eq_true k; omega
            have nd : ¬ isDn (tp f) = true := fun k => by have := of_decide_eq_true k; omega
            unfold eR
            rw [if_neg nl, if_neg nd]
          rw [el]
          have lt : f < tS tp n i := by
            rcases Nat.lt_or_ge f (tS tp n i) with w | w
            · exact w
            · have e : tS tp n i = f := by omega
              have := sk_at (tp := tp) (n := n) (p := ps tp n i) (show tS tp n i < n by omega)
              rw [show sk tp n (ps tp n i) = f from e, q] at this
              exact absurd this (by decide)
          exact ihm (f + 1) i h1 (by omega) (by omega) (by omega) (by omega) al t1' g c a
        · have es : tS tp n i = f := by
            rcases Nat.lt_or_ge f (tS tp n i) with w | w
            · exact absurd (sk_in hp w) q
            · omega
          have hpi := ps_succ (tp := tp) (n := n) (i := i) (by omega)
          rw [es] at hpi
          refine s_kindOfRun (d := d) hL (e2T t1' eT) tc e1 e2 ⟨_, rfl, e2T t1' eT, ?_⟩
          refine s_numberOfRun (d := d + 1) hL (e2T t1' eT) tc hf ⟨_, rfl, e2T t1' eT, ?_⟩
          obtain ⟨p1, p2⟩ := addTok_eq (h := h1) (i := i) (by omega) c (nI (kR tp f (eR tp n f))) (nI f) (nI (nR tp f (eR tp n f)))
          refine ⟨p1, ?_⟩
          rw [p2]
          refine skip (eR tp n f - (f + 1)) _ _ _ t1' (fun b j u1 u2 u3 u4 => ?_) (by omega) e2 ?_
          · rw [gI_sI, if_neg (fun q => u4 q.1 q.2), gI_sI_ne u3, gI_sI_ne u2, gI_sI_ne u1]; exact g b j u1 u2 u3 u4
          rw [← hpi]
          refine ihm (ps tp n (i + 1)) (i + 1) _ (by omega) (ps_b _) (Nat.le_refl _) (tS_b _).1 (fun j hj => ?_) t1' (fun b j u1 u2 u3 u4 => ?_) rfl (fun j hj => ?_)
          · by_cases v : j = i
            · rw [v]; omega
            · exact al j (by omega)
          · rw [gI_sI, if_neg (fun q => u4 q.1 q.2), gI_sI_ne u3, gI_sI_ne u2, gI_sI_ne u1]; exact g b j u1 u2 u3 u4
          · rw [gI_sI_ne (by decide), gI_sI_ne (by decide), gI_sI_ne (by decide), gI_sI_at, gI_sI_ne (by decide), gI_sI_ne (by decide), gI_sI_at, gI_sI_ne (by decide), gI_sI_ne (by decide), gI_sI_at, gI_sI_ne (by decide), gI_sI_ne (by decide)]
            by_cases v : j = i
            · rw [if_pos v, if_pos v, if_pos v, v]
              unfold tK tN
              rw [es, if_pos hf, if_pos hf, hpi]
              exact ⟨rfl, rfl, rfl⟩
            · rw [if_neg v, if_neg v, if_neg v]
              exact a j (by omega)
  exact main n 0 0 _ (by omega) (Nat.zero_le _) (Nat.le_refl _) (Nat.zero_le _) (fun j hj => by omega) rfl (fun b j _ _ _ u => by rw [gI_sI, if_neg (fun q => u q.1 q.2)]) rfl (fun j hj => by omega)
-- the model's next token
def TM (h : Hp) (tp : Nat → Nat) (n : Nat) : Prop := n ≤ 400 ∧ gI h 59 8 = nI n ∧ (∀ i, i < n → tp i < 256) ∧ ∀ i, i < n → gI h 64 i = nI (tp i)
theorem TM.tr {h h' : Hp} (t : TM h tp n) (g : gI h' 59 8 = gI h 59 8) (g7 : ∀ j, gI h' 64 j = gI h 64 j) : TM h' tp n := ⟨t.1, by rw [g]; exact t.2.1, t.2.2.1, fun i hi => by rw [g7]; exact t.2.2.2 i hi⟩
theorem see_eq (t : TM h tp n) {p : Nat} (hp : p ≤ n) : p_X11_see (nI p) h ∧ r_X11_see (nI p) h = if p < n then nI (tp p) else -1 := by
  obtain ⟨t1, t2, t3, t4⟩ := t
  unfold p_X11_see r_X11_see
  rw [t2, nI_clamp (by omega)]
  refine ⟨⟨fun q => ⟨(inB_iff (by omega)).mpr (by have := (nI_ltI (by omega) (by omega)).mp q; omega), trivial⟩, fun _ => trivial⟩, ?_⟩
  by_cases q : p < n
  · rw [if_pos (nI_lt q (by omega)), if_pos q, t4 p q]
  · rw [if_neg (nI_nlt (by omega) (by omega)), if_neg q]
theorem s_is (hL : Lay T) (eT : h.2.2 = T) (t : TM h tp n) {f e w : Nat} (hw : w < 6) (hf : f < e) (he : e ≤ n) (h9 : gI h 59 9 = nI e) (h11 : gI h 59 11 = nI f) (K : Q (some (.int (b2i (isW tp f e w)))) h) : Call (d + 0) MX11_is [.ref 59, .ref (1000000 + w)] h Q := by
  obtain ⟨t1, t2, t3, t4⟩ := t
  obtain ⟨l1, l2, l3⟩ := str_eq ⟨w, hw⟩
  dsimp only at l1 l2 l3
  have stop : isW tp f e w = false → ∀ i, i ≤ (strN w).length → L_X11_is_24 d w (nI 0) (nI i) h Q := by
    intro q i hi
    rw [q] at K
    refine b_X11_is_24 hL eT _ _ _ hw ?_
    rw [l1]
    exact ⟨fun _ => ⟨fun _ => ⟨Or.inl rfl, K⟩, fun z => absurd rfl z⟩, fun _ => ⟨Or.inl rfl, K⟩⟩
  refine b_X11_is hL eT _ hw ?_
  rw [h9, h11, pk_sub (by omega), l1]
  refine ⟨fun z => ?_, fun z => ?_⟩
  · have z := nI_inj (by omega) (by omega) z
    have ze : e = f + (strN w).length := by omega
    refine upto (strN w).length (fun i h1 => h1 = h ∧ ∀ j, j < i → tp (f + j) = (strN w).getD j 0) (fun i h1 => L_X11_is_24 d w (nI 1) (nI i) h1 Q) ?_ ?_ 0 h (Nat.zero_le _) ⟨rfl, fun j hj => by omega⟩
    · rintro i h1 hi ⟨rfl, al⟩ ih
      obtain ⟨c1, c2⟩ := l3 ⟨i, by omega⟩ hi
      dsimp only at c1 c2
      have hb := t3 (f + i) (by omega)
      refine b_X11_is_24 hL eT _ _ _ hw ?_
      rw [l1, h11, nI_add f i, nI_clamp (by omega), nI_clamp (by omega), t4 _ (by omega), c1, nI_add i 1]
      refine ⟨fun _ => ⟨fun q => absurd q (by decide), fun _ => ⟨(inB_iff (by omega)).mpr (by omega), (inB_iff (by omega)).mpr hi, fun q => ih _ ⟨rfl, fun j hj => ?_⟩, fun q => stop ?_ (i + 1) (by omega)⟩⟩, fun q => absurd (nI_lt hi (by omega)) q⟩
      · by_cases v : j = i
        · rw [v]; exact nI_inj (by omega) (by omega) q
        · exact al j (by omega)
      · unfold isW
        rw [decide_eq_true ze, Bool.true_and]
        refine Bool.eq_false_iff.mpr (fun k => q ?_)
        rw [of_decide_eq_true (List.all_eq_true.mp k i (List.mem_range.mpr hi))]
    · rintro h1 ⟨rfl, al⟩
      refine b_X11_is_24 hL eT _ _ _ hw ?_
      rw [l1]
      have : isW tp f e w = true := by
        unfold isW
        rw [decide_eq_true ze, Bool.true_and]
        exact List.all_eq_true.mpr (fun i hi => decide_eq_true (al i (List.mem_range.mp hi)))
      rw [this] at K
      exact ⟨fun q => absurd q (nI_nlt (Nat.le_refl _) (by omega)), fun _ => ⟨Or.inr rfl, K⟩⟩
  · refine stop ?_ 0 (Nat.zero_le _)
    unfold isW
    rw [decide_eq_false (fun k => z (by rw [show e - f = (strN w).length by omega])), Bool.false_and]
def mkT (k : Nat) : Nat := [0, 1, 2, 159, 140, 141, 3, 4, 5, 6, 7, 8].getD k 0
theorem s_word (hL : Lay T) (eT : h.2.2 = T) (t : TM h tp n) {f e : Nat} (hf : f < e) (he : e ≤ n) (h9 : gI h 59 9 = nI e) (h11 : gI h 59 11 = nI f) (K : Q (some (.int (nI (mkT (kW tp f e))))) h) : Call (d + 1) MX11_word [.ref 59] h Q := by
  unfold kW at K
  refine b_X11_word hL eT ?_
  refine s_is (d := d) hL eT t (w := 0) (by decide) hf he h9 h11 ⟨_, rfl, eT, fun z => by rw [if_pos z] at K; exact K, fun z0 => ?_⟩
  rw [if_neg z0] at K
  refine s_is (d := d) hL eT t (w := 1) (by decide) hf he h9 h11 ⟨_, rfl, eT, fun z => by rw [if_pos z] at K; exact K, fun z1 => ?_⟩
  rw [if_neg z1] at K
  refine s_is (d := d) hL eT t (w := 2) (by decide) hf he h9 h11 ⟨_, rfl, eT, fun z => by rw [if_pos z] at K; exact K, fun z2 => ?_⟩
  rw [if_neg z2] at K
  refine s_is (d := d) hL eT t (w := 3) (by decide) hf he h9 h11 ⟨_, rfl, eT, fun z => by rw [if_pos z] at K; exact K, fun z3 => ?_⟩
  rw [if_neg z3] at K
  refine s_is (d := d) hL eT t (w := 4) (by decide) hf he h9 h11 ⟨_, rfl, eT, fun z => by rw [if_pos z] at K; exact K, fun z4 => ?_⟩
  rw [if_neg z4] at K
  exact s_is (d := d) hL eT t (w := 5) (by decide) hf he h9 h11 ⟨_, rfl, eT, fun z => by rw [if_pos z] at K; exact K, fun z => by rw [if_neg z] at K; exact K⟩
def frX (h h' : Hp) : Prop := ∀ b j, (b = 59 → j ≠ 9 ∧ j ≠ 10 ∧ j ≠ 11 ∧ j ≠ 12) → gI h' b j = gI h b j
theorem s_next0 (hL : Lay T) (eT : h.2.2 = T) (t : TM h tp n) {p : Nat} (hp : p ≤ n) (h9 : gI h 59 9 = nI p)
    (K : ∀ h' : Hp, h'.2 = h.2 → frX h h' → gI h' 59 9 = nI (if sk tp n p < n then eR tp n (sk tp n p) else n) → gI h' 59 11 = nI (sk tp n p) → gI h' 59 10 = nI (mkT (if sk tp n p < n then kR tp (sk tp n p) (eR tp n (sk tp n p)) else 0)) → (sk tp n p < n → isDn (tp (sk tp n p)) = true → gI h' 59 12 = nI (nR tp (sk tp n p) (eR tp n (sk tp n p)))) → Q none h') : Call (d + 2) MX11_next0 [.ref 59] h Q := by
  obtain ⟨t1, t2, t3, t4⟩ := id t
  obtain ⟨s1, s2⟩ := sk_b (tp := tp) hp
  have main := upto (sk tp n p) (fun x h1 => (h1.2 = h.2 ∧ frX h h1 ∧ gI h1 59 9 = nI x) ∧ p ≤ x) (fun x h1 => L_X11_next0_0 d h1 Q) ?_ ?_ p h s1 ⟨⟨rfl, fun _ _ _ => rfl, h9⟩, Nat.le_refl _⟩
  · exact main un un
  · rintro x h1 hx ⟨⟨e1, g1, n1⟩, lx⟩ ih
    have tm : TM h1 tp n := t.tr (g1 _ _ (by decide)) (fun j => g1 _ _ (by omega))
    obtain ⟨c1, c2⟩ := see_eq tm (show x ≤ n by omega)
    have hb := of_decide_eq_true (sk_in lx hx)
    have nx := ih (sI h1 59 9 (nI (x + 1))) ⟨⟨e1, fun b j u => by rw [gI_sI, if_neg (fun q => (u q.1).1 q.2)]; exact g1 b j u, rfl⟩, by omega⟩
    refine b_X11_next0_0 hL (e2T e1 eT) ?_
    rw [n1, c2, if_pos (by omega), nI_add]
    refine ⟨c1, fun _ => nx, fun q => ⟨c1, fun _ => nx, fun q2 => ?_⟩⟩
    exfalso
    rcases hb with w | w
    · exact q (by rw [w])
    · exact q2 (by rw [w])
  · rintro h1 ⟨⟨e1, g1, n1⟩, lx⟩
    have tm : TM h1 tp n := t.tr (g1 _ _ (by decide)) (fun j => g1 _ _ (by omega))
    obtain ⟨c1, c2⟩ := see_eq tm s2
    generalize hse : sk tp n p = s at *
    have n1' : gI (sI h1 59 11 (nI s)) 59 9 = nI s := by rw [gI_sI_at, if_neg (by decide)]; exact n1
    have tm' : TM (sI h1 59 11 (nI s)) tp n := tm.tr (by rw [gI_sI_at, if_neg (by decide)]) (fun j => gI_sI_ne (by decide))
    obtain ⟨c3, c4⟩ := see_eq tm' s2
    have g2 : frX h (sI h1 59 11 (nI s)) := fun b j u => by rw [gI_sI, if_neg (fun q => (u q.1).2.2.1 q.2)]; exact g1 b j u
    refine b_X11_next0_0 hL (e2T e1 eT) ?_
    rw [n1, c2, n1', c4]
    by_cases z : s < n
    · have nb : isBn (tp s) = false := by rw [← hse]; exact sk_at (by rw [hse]; exact z)
      have nb := of_decide_eq_false nb
      have hb := t3 s z
      obtain ⟨r1, r2⟩ := eR_b (tp := tp) z
      rw [if_pos z] at K
      rw [if_pos z] at K
      rw [if_pos z, mb_L hb, mb_D hb]
      refine ⟨c1, fun q => absurd (Or.inl (nI_inj (by omega) (by omega) q)) nb, fun _ => ⟨c1, fun q => absurd (Or.inr (nI_inj (by omega) (by omega) q)) nb, fun _ => ⟨c3, fun q => absurd ((nI_m1 _ (by omega)).mp q) (fun z => z), fun _ => ⟨fun q => ?_, fun q => ⟨fun q2 => ?_, fun q2 => ?_⟩⟩⟩⟩⟩
      · -- letters
        have ek : kR tp s (eR tp n s) = kW tp s (eR tp n s) := by unfold kR; rw [if_pos q]
        have nd : ¬ isDn (tp s) = true := fun k => by
          have a := of_decide_eq_true k
          have b := of_decide_eq_true q
          omega
        refine upto (eR tp n s) (fun x h2 => (h2.2 = h.2 ∧ frX h h2 ∧ gI h2 59 9 = nI x ∧ gI h2 59 11 = nI s) ∧ s ≤ x) (fun x h2 => L_X11_next0_76 d h2 Q) ?_ ?_ s (sI h1 59 11 (nI s)) (by omega) ⟨⟨e1, g2, n1', rfl⟩, Nat.le_refl _⟩
        · rintro x h2 hx ⟨⟨a1, a2, a3, a4⟩, lx⟩ ih
          have tm2 : TM h2 tp n := t.tr (a2 _ _ (by decide)) (fun j => a2 _ _ (by omega))
          obtain ⟨k1, k2⟩ := see_eq tm2 (show x ≤ n by omega)
          refine b_X11_next0_76 hL (e2T a1 eT) ?_
          rw [a3, k2, if_pos (by omega), mb_L (t3 x (by omega)), nI_add]
          refine ⟨k1, fun _ => ih _ ⟨⟨a1, fun b j u => by rw [gI_sI, if_neg (fun q => (u q.1).1 q.2)]; exact a2 b j u, rfl, by rw [gI_sI_at, if_neg (by decide)]; exact a4⟩, by omega⟩, fun w => absurd (run_L q lx hx) w⟩
        · rintro h2 ⟨⟨a1, a2, a3, a4⟩, lx⟩
          have tm2 : TM h2 tp n := t.tr (a2 _ _ (by decide)) (fun j => a2 _ _ (by omega))
          obtain ⟨k1, k2⟩ := see_eq tm2 r2
          have nl : ¬ r_X11_isLetter (if eR tp n s < n then nI (tp (eR tp n s)) else -1) = true := by
            by_cases w : eR tp n s < n
            · rw [if_pos w, mb_L (t3 _ w), run_Le q w]; decide
            · rw [if_neg w]; decide
          refine b_X11_next0_76 hL (e2T a1 eT) ?_
          rw [a3, k2]
          refine ⟨k1, fun w => absurd w nl, fun _ => ?_⟩
          refine s_word (d := d) hL (e2T a1 eT) tm2 r1 r2 a3 a4 ⟨_, rfl, e2T a1 eT, K _ a1 (fun b j u => by rw [gI_sI, if_neg (fun q => (u q.1).2.1 q.2)]; exact a2 b j u) (by rw [gI_sI_at, if_neg (by decide)]; exact a3) (by rw [gI_sI_at, if_neg (by decide)]; exact a4) (by rw [ek, gI_sI_at, if_pos rfl]) (fun _ w => absurd w nd)⟩
      · -- digits
        have ek : kR tp s (eR tp n s) = if eR tp n s - s ≤ 4 then 2 else 1 := by unfold kR; rw [if_neg q, if_pos q2]
        have en : nR tp s (eR tp n s) = dv tp s (min (eR tp n s - s) 4) := by unfold nR; rw [if_pos q2]
        refine upto (eR tp n s) (fun x h2 => (h2.2 = h.2 ∧ frX h h2 ∧ gI h2 59 9 = nI x ∧ gI h2 59 11 = nI s ∧ gI h2 59 12 = nI (dv tp s (min (x - s) 4))) ∧ s ≤ x) (fun x h2 => L_X11_next0_126 d h2 Q) ?_ ?_ s (sI (sI h1 59 11 (nI s)) 59 12 (nI 0)) (by omega) ⟨⟨e1, fun b j u => by rw [gI_sI, if_neg (fun q => (u q.1).2.2.2 q.2)]; exact g2 b j u, by rw [gI_sI_at, if_neg (by decide)]; exact n1', rfl, by rw [Nat.sub_self]; rfl⟩, Nat.le_refl _⟩
        · rintro x h2 hx ⟨⟨a1, a2, a3, a4, a5⟩, lx⟩ ih
          have tm2 : TM h2 tp n := t.tr (a2 _ _ (by decide)) (fun j => a2 _ _ (by omega))
          obtain ⟨k1, k2⟩ := see_eq tm2 (show x ≤ n by omega)
          have hd := run_D q2 lx hx
          have h48 := of_decide_eq_true hd
          have hdv := dv_le (f := s) (i := min (x - s) 4) t3 (by omega) (by omega)
          refine b_X11_next0_126 hL (e2T a1 eT) ?_
          rw [a3, k2, if_pos (by omega), mb_D (t3 x (by omega)), a4, a5, nI_add s 4, pk_mul, nI_add _ (tp x), pk_sub (by omega), gI_sI_at, if_neg (show ¬ (9 : Nat) = 12 by decide), a3, nI_add x 1]
          refine ⟨k1, fun _ => ⟨fun w => ⟨k1, ih _ ⟨⟨a1, fun b j u => ?_, rfl, ?_, ?_⟩, by omega⟩⟩, fun w => ih _ ⟨⟨a1, fun b j u => ?_, rfl, ?_, ?_⟩, by omega⟩⟩, fun w => absurd hd w⟩
          · rw [gI_sI, if_neg (fun q => (u q.1).1 q.2), gI_sI, if_neg (fun q => (u q.1).2.2.2 q.2)]; exact a2 b j u
          · rw [gI_sI_at, if_neg (by decide), gI_sI_at, if_neg (by decide)]; exact a4
          · have w := (nI_ltI (by omega) (by omega)).mp w
            rw [gI_sI_at, if_neg (by decide), gI_sI_at, if_pos rfl, show min (x + 1 - s) 4 = x - s + 1 by omega, show min (x - s) 4 = x - s by omega]
            congr 1
            show _ = dv tp s (x - s) * 10 + (tp (s + (x - s)) - 48)
            rw [show s + (x - s) = x by omega]
            omega
          · rw [gI_sI, if_neg (fun q => (u q.1).1 q.2)]; exact a2 b j u
          · rw [gI_sI_at, if_neg (by decide)]; exact a4
          · have w : s + 4 ≤ x := Nat.le_of_not_lt (fun u => w (nI_lt u (by omega)))
            rw [gI_sI_at, if_neg (by decide), a5, show min (x + 1 - s) 4 = min (x - s) 4 by omega]
        · rintro h2 ⟨⟨a1, a2, a3, a4, a5⟩, lx⟩
          have tm2 : TM h2 tp n := t.tr (a2 _ _ (by decide)) (fun j => a2 _ _ (by omega))
          obtain ⟨k1, k2⟩ := see_eq tm2 r2
          have nl : ¬ r_X11_isDigit (if eR tp n s < n then nI (tp (eR tp n s)) else -1) = true := by
            by_cases w : eR tp n s < n
            · rw [if_pos w, mb_D (t3 _ w), run_e q2 w]; decide
            · rw [if_neg w]; decide
          refine b_X11_next0_126 hL (e2T a1 eT) ?_
          rw [a3, k2, a4, pk_sub (by omega)]
          have fin : ∀ v : Nat, v = kR tp s (eR tp n s) → Q none (sI h2 59 10 (nI (mkT v))) := fun v ev => by
            refine K _ a1 (fun b j u => by rw [gI_sI, if_neg (fun q => (u q.1).2.1 q.2)]; exact a2 b j u) (by rw [gI_sI_at, if_neg (by decide)]; exact a3) (by rw [gI_sI_at, if_neg (by decide)]; exact a4) (by rw [← ev, gI_sI_at, if_pos rfl]) (fun _ _ => by rw [gI_sI_at, if_neg (by decide), en]; exact a5)
          refine ⟨k1, fun w => absurd w nl, fun _ => ⟨fun w => ?_, fun w => ?_⟩⟩
          · have w := (nI_ltI (by omega) (by omega)).mp w
            exact fin 2 (by rw [ek, if_pos (by omega)])
          · have w : ¬ eR tp n s - s < 5 := fun u => w (nI_lt u (by omega))
            exact fin 1 (by rw [ek, if_neg (by omega)])
      · -- other signs
        have er : eR tp n s = s + 1 := by unfold eR; rw [if_neg q, if_neg q2]
        have ek : kR tp s (eR tp n s) = if tp s = 59 then 3 else if tp s = 40 then 4 else if tp s = 41 then 5 else 1 := by unfold kR; rw [if_neg q, if_neg q2]
        rw [er] at K
        rw [er] at ek
        have fin : ∀ v : Nat, v = mkT (kR tp s (s + 1)) → Q none (sI (sI (sI h1 59 11 (nI s)) 59 9 (nI (s + 1))) 59 10 (nI v)) := fun v ev => by
          refine K _ e1 (fun b j u => by rw [gI_sI, if_neg (fun q => (u q.1).2.1 q.2), gI_sI, if_neg (fun q => (u q.1).1 q.2)]; exact g2 b j u) ?_ ?_ ?_ (fun _ w => absurd w q2)
          · rw [gI_sI_at, if_neg (by decide), gI_sI_at, if_pos rfl]
          · rw [gI_sI_at, if_neg (by decide), gI_sI_at, if_neg (by decide), gI_sI_at, if_pos rfl]
          · rw [gI_sI_at, if_pos rfl, ev]
        rw [nI_add s 1, nI_add 100 _]
        refine ⟨fun w => fin _ ?_, fun w => ⟨fun w2 => fin _ ?_, fun w2 => ⟨fun w3 => fin _ ?_, fun w3 => fin 1 ?_⟩⟩⟩
        · have w := nI_inj (by omega) (by omega) w
          rw [ek, if_pos w, w]; rfl
        · have w2 := nI_inj (by omega) (by omega) w2
          rw [ek, if_neg (by omega), if_pos w2, w2]; rfl
        · have w3 := nI_inj (by omega) (by omega) w3
          rw [ek, if_neg (by omega), if_neg (by omega), if_pos w3, w3]; rfl
        · rw [ek, if_neg (fun e => w (by rw [e])), if_neg (fun e => w2 (by rw [e])), if_neg (fun e => w3 (by rw [e]))]; rfl
    · rw [if_neg z] at K
      rw [if_neg z] at K
      rw [if_neg z]
      have es : s = n := by omega
      refine ⟨c1, fun q => absurd q (by decide), fun _ => ⟨c1, fun q => absurd q (by decide), fun _ => ⟨c3, fun _ => ?_, fun q => absurd rfl q⟩⟩⟩
      refine K _ e1 (fun b j u => by rw [gI_sI, if_neg (fun q => (u q.1).2.1 q.2)]; exact g2 b j u) ?_ ?_ ?_ (fun w => absurd w z)
      · rw [gI_sI_at, if_neg (by decide), n1', es]
      · rw [gI_sI_at, if_neg (by decide), gI_sI_at, if_pos rfl]
      · rw [gI_sI_at, if_pos rfl]; rfl
end Lex
