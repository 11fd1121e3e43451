section Few
variable {d : Nat} {T : HT} {h : Hp} {Q : Option Value → Hp → Prop} {n : Nat} {l t : List Nat}
theorem tk {l : List Nat} {i : Nat} (hi : i < l.length) : l.take (i + 1) = l.take i ++ [l.getD i 0] := by
  rw [List.take_succ, List.getElem?_eq_getElem hi, List.getD_eq_getElem?_getD, List.getElem?_eq_getElem hi]; rfl
theorem dg_sm {l : List Nat} (k : dg l) : sm l := fun x hx => Nat.lt_trans (k x hx) (by decide)
theorem s_countOf (hL : Lay T) (eT : h.2.2 = T) (hl : l.length = n) (h16 : n ≤ 16) (hs : sm l) {x : Nat} (hx : x < 16) (K : Q (some (.int (nI (l.count x)))) h) : Call (d + 1) MX3_countOf [.int (nI x), .long (lN (enc l)), .int (nI n)] h Q := by
  refine b_X3_countOf hL eT _ _ _ ?_
  refine upto n (fun i h1 => h1 = h) (fun i h1 => L_X3_countOf_6 d (nI x) (lN (enc l)) (nI n) (nI ((l.take i).count x)) (nI i) h1 Q) ?_ ?_ 0 h (Nat.zero_le _) rfl
  · rintro i h1 hi rfl ih
    have ih' := ih _ rfl
    have hg := sm_getD hs i
    rw [tk (by omega), List.count_append, List.count_singleton] at ih'
    refine b_X3_countOf_6 hL eT _ _ _ _ _ ⟨fun _ => ?_, fun z => absurd (nI_lt hi (by omega)) z⟩
    rw [get_enc hs (by omega) (by omega), nI_add, nI_add]
    refine ⟨fun e => ?_, fun e => ?_⟩
    · have e' := nI_inj (by omega) (by omega) e
      rw [if_pos (beq_iff_eq.mpr e')] at ih'
      exact ih'
    · rw [if_neg (fun z => e (by rw [beq_iff_eq.mp z])), Nat.add_zero] at ih'
      exact ih'
  · rintro h1 rfl
    refine b_X3_countOf_6 hL eT _ _ _ _ _ ⟨fun z => absurd z (nI_nlt (Nat.le_refl _) (by omega)), fun _ => ?_⟩
    rw [List.take_of_length_le (by omega)]
    exact K
theorem s_isSame (hL : Lay T) (eT : h.2.2 = T) (hl : l.length = n) (ht : t.length = n) (h16 : n ≤ 16) (dl : dg l) (dt : dg t) (K : ∀ b : Bool, (b = true ↔ l.Perm t) → Q (some (.int (b2i b))) h) : Call (d + 2) MX3_isSameColours [.long (lN (enc l)), .long (lN (enc t)), .int (nI n)] h Q := by
  refine b_X3_isSameColours hL eT _ _ _ ?_
  refine upto 10 (fun i h1 => h1 = h ∧ ∀ x, x < i → l.count x = t.count x) (fun i h1 => L_X3_isSameColours_3 d (lN (enc l)) (lN (enc t)) (nI n) (nI i) h1 Q) ?_ ?_ 0 h (Nat.zero_le _) ⟨rfl, fun x hx => by omega⟩
  · rintro i h1 hi ⟨rfl, hc⟩ ih
    refine b_X3_isSameColours_3 hL eT _ _ _ _ ⟨fun _ => ?_, fun z => absurd (nI_lt hi (by decide)) z⟩
    refine s_countOf (d := d) hL eT hl h16 (dg_sm dl) (by omega) ⟨_, rfl, eT, s_countOf (d := d) hL eT ht h16 (dg_sm dt) (by omega) ⟨_, rfl, eT, fun e => ?_, fun e => ?_⟩⟩
    · rw [nI_add]
      have b1 : l.count i ≤ l.length := List.count_le_length
      have b2 : t.count i ≤ t.length := List.count_le_length
      have e' := nI_inj (by omega) (by omega) e
      refine ih _ ⟨rfl, fun x hx => ?_⟩
      by_cases z : x = i
      · rw [z]; exact e'
      · exact hc x (by omega)
    · exact K false ⟨fun z => absurd z (by decide), fun p => absurd (by rw [p.count_eq]) e⟩
  · rintro h1 ⟨rfl, hc⟩
    refine b_X3_isSameColours_3 hL eT _ _ _ _ ⟨fun z => absurd z (nI_nlt (Nat.le_refl _) (by decide)), fun _ => K true ⟨fun _ => ?_, fun _ => rfl⟩⟩
    refine List.perm_iff_count.mpr (fun x => ?_)
    by_cases z : x < 10
    · exact hc x z
    · rw [List.count_eq_zero_of_not_mem (fun m => z (dl x m)), List.count_eq_zero_of_not_mem (fun m => z (dt x m))]
def TB (h : Hp) (l t : List Nat) (i j : Nat) : Prop := ∃ c, gI h 49 (i * 8 + j) = nI c ∧ IsL (l.take i) (t.take j) c
theorem TB.z1 (z : LZ h) {j : Nat} (hj : j < 8) : TB h l t 0 j := ⟨0, by rw [Nat.zero_mul, Nat.zero_add, nI_0]; exact (z j hj).1, IsL.nil _⟩
theorem TB.z2 (z : LZ h) {i : Nat} (hi : i < 8) : TB h l t i 0 := ⟨0, by rw [Nat.add_zero, Nat.mul_comm, nI_0]; exact (z i hi).2, IsL.nil' _⟩
theorem s_longest (hL : Lay T) (eT : h.2.2 = T) (hl : l.length = n) (ht : t.length = n) (h7 : n ≤ 7) (hs : sm l) (hst : sm t) (z : LZ h) (K : ∀ (h' : Hp) (c : Nat), h'.2 = h.2 → (∀ b j, b ≠ 49 → gI h' b j = gI h b j) → LZ h' → IsL l t c → Q (some (.int (nI c))) h') : Call (d + 1) MX3_longestCommon [.ref 48, .long (lN (enc l)), .long (lN (enc t)), .int (nI n)] h Q := by
  refine b_X3_longestCommon hL eT _ _ _ ?_
  refine upto (n + 1) (fun i h1 => 1 ≤ i ∧ h1.2 = h.2 ∧ (∀ b j, b ≠ 49 → gI h1 b j = gI h b j) ∧ LZ h1 ∧ ∀ i' j, i' < i → j ≤ n → TB h1 l t i' j) (fun i h1 => L_X3_longestCommon_3 d (lN (enc l)) (lN (enc t)) (nI n) (nI i) h1 Q) ?_ ?_ 1 h (by omega) ⟨by omega, rfl, fun _ _ _ => rfl, z, fun i' j a b => by rw [show i' = 0 by omega]; exact TB.z1 z (by omega)⟩
  · rintro i h1 hi ⟨i1, e2, hg, lz, tb⟩ ih
    refine b_X3_longestCommon_3 hL (e2T e2 eT) _ _ _ _ ⟨fun c => absurd ((nI_ltI (by omega) (by omega)).mp c) (by omega), fun _ => ?_⟩
    refine upto (n + 1) (fun j h2 => 1 ≤ j ∧ h2.2 = h.2 ∧ (∀ b j, b ≠ 49 → gI h2 b j = gI h b j) ∧ LZ h2 ∧ (∀ i' j', i' < i → j' ≤ n → TB h2 l t i' j') ∧ ∀ j', j' < j → TB h2 l t i j') (fun j h2 => L_X3_longestCommon_13 d (lN (enc l)) (lN (enc t)) (nI n) (nI i) (nI j) h2 Q) ?_ ?_ 1 h1 (by omega) ⟨by omega, e2, hg, lz, tb, fun j' hj => by rw [show j' = 0 by omega]; exact TB.z2 lz (by omega)⟩
    · rintro j h2 hj ⟨j1, e2, hg, lz, tb, tr⟩ ih2
      refine b_X3_longestCommon_13 hL (e2T e2 eT) _ _ _ _ _ ⟨fun c => absurd ((nI_ltI (by omega) (by omega)).mp c) (by omega), fun _ => ?_⟩
      obtain ⟨i0, rfl⟩ : ∃ i0, i = i0 + 1 := ⟨i - 1, by omega⟩
      obtain ⟨j0, rfl⟩ : ∃ j0, j = j0 + 1 := ⟨j - 1, by omega⟩
      have fin : ∀ c, IsL (l.take (i0 + 1)) (t.take (j0 + 1)) c → L_X3_longestCommon_13 d (lN (enc l)) (lN (enc t)) (nI n) (nI (i0 + 1)) (nI (j0 + 1 + 1)) (sI h2 49 ((i0 + 1) * 8 + (j0 + 1)) (nI c)) Q := by
        intro c hc
        refine ih2 _ ⟨by omega, e2, fun b j hb => by rw [gI_sI_ne hb]; exact hg b j hb, fun k hk => ?_, fun i' j' a b => ?_, fun j' a => ?_⟩
        · rw [gI_sI_at, gI_sI_at, if_neg (by omega), if_neg (by omega)]; exact lz k hk
        · obtain ⟨c', u1, u2⟩ := tb i' j' a b
          exact ⟨c', by rw [gI_sI_at, if_neg (by omega)]; exact u1, u2⟩
        · by_cases q : j' = j0 + 1
          · subst q; exact ⟨c, by rw [gI_sI_at, if_pos rfl], hc⟩
          · obtain ⟨c', u1, u2⟩ := tr j' (by omega)
            exact ⟨c', by rw [gI_sI_at, if_neg (by omega)]; exact u1, u2⟩
      rw [pk_sub (by omega), pk_sub (by omega), pk_mul, nI_add ((i0 + 1) * 8), pk_sub (by omega), pk_sub (by omega), pk_sub (by omega), get_enc hs (by omega) (by omega), get_enc hst (by omega) (by omega), nI_add (j0 + 1) 1, nI_clamp (by omega), nI_clamp (by omega), nI_clamp (by omega), nI_clamp (by omega), show i0 + 1 - 1 = i0 by omega, show j0 + 1 - 1 = j0 by omega, show (i0 + 1) * 8 + (j0 + 1) - 8 - 1 = i0 * 8 + j0 by omega, show (i0 + 1) * 8 + (j0 + 1) - 8 = i0 * 8 + (j0 + 1) by omega, show (i0 + 1) * 8 + (j0 + 1) - 1 = (i0 + 1) * 8 + j0 by omega]
      refine ⟨fun e => ⟨(inB_iff (by omega)).mpr (by omega), (inB_iff (by omega)).mpr (by omega), ?_⟩, fun e => ⟨(inB_iff (by omega)).mpr (by omega), (inB_iff (by omega)).mpr (by omega), (inB_iff (by omega)).mpr (by omega), ?_⟩⟩
      · have e' := nI_inj (by have := sm_getD hs i0; omega) (by have := sm_getD hst j0; omega) e
        obtain ⟨c, u1, u2⟩ := tb i0 j0 (by omega) (by omega)
        rw [u1, nI_add]
        refine fin _ ?_
        rw [tk (by omega), tk (by omega), e']
        exact u2.eq
      · have hne : l.getD i0 0 ≠ t.getD j0 0 := fun q => e (by rw [q])
        obtain ⟨c1, u1, u2⟩ := tb i0 (j0 + 1) (by omega) (by omega)
        obtain ⟨c2, w1, w2⟩ := tr j0 (by omega)
        have b1 := u2.le
        have b2 := w2.le
        rw [List.length_take] at b1 b2
        have fin2 : ∀ c, c1 ≤ c → c2 ≤ c → (c = c1 ∨ c = c2) → IsL (l.take (i0 + 1)) (t.take (j0 + 1)) c := by
          intro c x y w
          rw [tk (by omega)] at u2 w2 ⊢
          rw [tk (by omega)]
          exact u2.ne w2 hne x y w
        rw [u1, w1]
        by_cases q : c1 < c2
        · rw [if_pos (nI_lt q (by omega))]
          exact fin _ (fin2 _ (by omega) (by omega) (Or.inr rfl))
        · rw [if_neg (nI_nlt (by omega) (by omega))]
          exact fin _ (fin2 _ (by omega) (by omega) (Or.inl rfl))
    · rintro h2 ⟨j1, e2, hg, lz, tb, tr⟩
      refine b_X3_longestCommon_13 hL (e2T e2 eT) _ _ _ _ _ ⟨fun _ => ?_, fun c => absurd (nI_lt (by omega) (by omega)) c⟩
      rw [nI_add]
      refine ih _ ⟨by omega, e2, hg, lz, fun i' j a b => ?_⟩
      by_cases q : i' = i
      · rw [q]; exact tr j (by omega)
      · exact tb i' j (by omega) b
  · rintro h1 ⟨i1, e2, hg, lz, tb⟩
    refine b_X3_longestCommon_3 hL (e2T e2 eT) _ _ _ _ ⟨fun _ => ?_, fun c => absurd (nI_lt (by omega) (by omega)) c⟩
    rw [pk_mul, nI_add, nI_clamp (by omega)]
    obtain ⟨c, u1, u2⟩ := tb n n (by omega) (by omega)
    rw [u1]
    rw [List.take_of_length_le (by omega), List.take_of_length_le (by omega)] at u2
    exact ⟨(inB_iff (by omega)).mpr (by omega), K h1 c e2 hg lz u2⟩
def Nd (l t : List Nat) (r : Int32) : Prop := (l.Perm t ∧ ∃ c, IsL l t c ∧ r = nI (t.length - c)) ∨ (¬ l.Perm t ∧ r = -1)
theorem Nd.uniq {r r' : Int32} (k : Nd l t r) (k' : Nd l t r') : r = r' := by
  rcases k with ⟨p, c, x, y⟩ | ⟨p, x⟩
  · rcases k' with ⟨_, c', x', y'⟩ | ⟨p', _⟩
    · rw [y, y', x.uniq x']
    · exact absurd p p'
  · rcases k' with ⟨p', _⟩ | ⟨_, x'⟩
    · exact absurd p' p
    · rw [x, x']
theorem s_needed (hL : Lay T) (eT : h.2.2 = T) (hl : l.length = n) (ht : t.length = n) (h7 : n ≤ 7) (dl : dg l) (dt : dg t) (z : LZ h) (K : ∀ (h' : Hp) (r : Int32), h'.2 = h.2 → (∀ b j, b ≠ 49 → gI h' b j = gI h b j) → LZ h' → Nd l t r → Q (some (.int r)) h') : Call (d + 3) MX3_needed [.ref 48, .long (lN (enc l)), .long (lN (enc t)), .int (nI n)] h Q := by
  refine b_X3_needed hL eT _ _ _ ⟨fun c => absurd ((nI_ltI (by omega) (by omega)).mp c) (by omega), fun _ => ?_⟩
  refine s_isSame (d := d) hL eT hl ht (by omega) dl dt (fun b hb => ⟨b, rfl, eT, fun e => ?_, fun e => ?_⟩)
  · refine s_longest (d := d + 1) hL eT hl ht h7 (dg_sm dl) (dg_sm dt) z (fun h' c e2 hg lz k => ⟨_, rfl, e2T e2 eT, K h' _ e2 hg lz ?_⟩)
    have := k.le
    exact Or.inl ⟨hb.mp e, c, k, by rw [pk_sub (by omega), ht]⟩
  · exact K h _ rfl (fun _ _ _ => rfl) z (Or.inr ⟨fun p => e (hb.mpr p), rfl⟩)
end Few
