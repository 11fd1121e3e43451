theorem nI_dec (k : Nat) : nI (k + 1) + (-1) = nI k := by
  have e : (-1 : Int32) = - nI 1 := by decide
  rw [e, ← Int32.sub_eq_add_neg, pk_sub (by omega), Nat.add_sub_cancel]
section Lfd
variable {d : Nat} {T : HT} {h : Hp} {Q : Option Value → Hp → Prop} {n a b : Nat} {l : List Nat}
theorem s_lf3 (hL : Lay T) (eT : h.2.2 = T) {m : List Nat} (hl : m.length = n) (h7 : n ≤ 7) (hc : ∀ j, j < n → gI h 70 j = nI (m.getD j 0)) (K : Q (some (.int (nI (cd m)))) h) : L_X11_liftedOf_117 d (nI n) (nI 0) (nI 0) h Q := by
  refine upto n (fun i h1 => h1 = h) (fun i h1 => L_X11_liftedOf_117 d (nI n) (nI (pc (fun i => m.getD i 0) i)) (nI i) h1 Q) ?_ ?_ 0 h (Nat.zero_le _) rfl
  · rintro i h1 hi rfl ih
    refine b_X11_liftedOf_117 hL eT _ _ _ ⟨fun _ => ⟨(inB_iff (by omega)).mpr (by omega), ?_⟩, fun z => absurd (nI_lt hi (by omega)) z⟩
    rw [nI_clamp (by omega), hc i hi, pk_mul, nI_add, nI_add]
    exact ih _ rfl
  · rintro h1 rfl
    refine b_X11_liftedOf_117 hL eT _ _ _ ⟨fun z => absurd z (nI_nlt (Nat.le_refl _) (by omega)), fun _ => ?_⟩
    unfold cd at K
    rw [hl] at K
    exact K
theorem s_lf2 (hL : Lay T) (eT : h.2.2 = T) (hl : l.length = n) (h7 : n ≤ 7) (ha : a < n) (hb : b < n) (hc : ∀ j, j < n → gI h 70 j = nI (l.getD j 0)) (K : ∀ h' : Hp, h'.2 = h.2 → (∀ x j, x ≠ 70 → gI h' x j = gI h x j) → Q (some (.int (nI (cd (liftL l a b))))) h') : L_X11_liftedOf_70 d (nI b) (nI n) (nI (l.getD a 0)) (if nI a < nI b then nI 1 else -1) (nI a) h Q := by
  by_cases q : a < b
  · rw [if_pos (nI_lt q (by omega))]
    refine upto b (fun i h1 => a ≤ i ∧ h1.2 = h.2 ∧ (∀ x j, x ≠ 70 → gI h1 x j = gI h x j) ∧ ∀ j, j < n → gI h1 70 j = nI (if a ≤ j ∧ j < i then l.getD (j + 1) 0 else l.getD j 0)) (fun i h1 => L_X11_liftedOf_70 d (nI b) (nI n) (nI (l.getD a 0)) (nI 1) (nI i) h1 Q) ?_ ?_ a h (by omega) ⟨Nat.le_refl _, rfl, fun _ _ _ => rfl, fun j hj => by rw [if_neg (by omega)]; exact hc j hj⟩
    · rintro i h1 hi ⟨ai, e2, hg, hc⟩ ih
      refine b_X11_liftedOf_70 hL (e2T e2 eT) _ _ _ _ _ ⟨fun z => absurd (nI_inj (by omega) (by omega) z) (by omega), fun _ => ?_⟩
      rw [nI_add]
      refine ⟨(inB_iff (by omega)).mpr (by omega), (inB_iff (by omega)).mpr (by omega), ?_⟩
      rw [nI_clamp (by omega), nI_clamp (by omega), hc _ (by omega), if_neg (by omega)]
      refine ih _ ⟨by omega, e2, fun x j hx => by rw [gI_sI_ne hx]; exact hg x j hx, fun j hj => ?_⟩
      rw [gI_sI_at]
      by_cases z : j = i
      · subst z; rw [if_pos rfl, if_pos (by omega)]
      · rw [if_neg z, hc j hj]
        by_cases y : a ≤ j ∧ j < i
        · rw [if_pos y, if_pos (by omega)]
        · rw [if_neg y, if_neg (by omega)]
    · rintro h1 ⟨ai, e2, hg, hc⟩
      refine b_X11_liftedOf_70 hL (e2T e2 eT) _ _ _ _ _ ⟨fun _ => ⟨(inB_iff (by omega)).mpr (by omega), ?_⟩, fun z => absurd rfl z⟩
      rw [nI_clamp (by omega)]
      refine s_lf3 hL (e2T e2 eT) (m := liftL l a b) (by rw [len_lift (by omega) (by omega)]; exact hl) h7 (fun j hj => ?_) (K _ e2 (fun x j hx => by rw [gI_sI_ne hx]; exact hg x j hx))
      rw [gI_sI_at, liftL_get (by omega) (by omega)]
      by_cases z : j = b
      · rw [if_pos z, if_pos z]
      · rw [if_neg z, if_neg z, hc j hj]
        by_cases y : a ≤ j ∧ j < b
        · rw [if_pos y, if_pos y]
        · rw [if_neg y, if_neg y, if_neg (by omega)]
  · rw [if_neg (nI_nlt (by omega) (by omega))]
    have key : ∀ k (h1 : Hp), b + k ≤ a → h1.2 = h.2 → (∀ x j, x ≠ 70 → gI h1 x j = gI h x j) → (∀ j, j < n → gI h1 70 j = nI (if b + k < j ∧ j ≤ a then l.getD (j - 1) 0 else l.getD j 0)) → L_X11_liftedOf_70 d (nI b) (nI n) (nI (l.getD a 0)) (-1) (nI (b + k)) h1 Q := by
      intro k
      induction k with
      | zero =>
        intro h1 _ e2 hg hc
        refine b_X11_liftedOf_70 hL (e2T e2 eT) _ _ _ _ _ ⟨fun _ => ⟨(inB_iff (by omega)).mpr (by omega), ?_⟩, fun z => absurd rfl z⟩
        rw [nI_clamp (by omega)]
        refine s_lf3 hL (e2T e2 eT) (m := liftL l a b) (by rw [len_lift (by omega) (by omega)]; exact hl) h7 (fun j hj => ?_) (K _ e2 (fun x j hx => by rw [gI_sI_ne hx]; exact hg x j hx))
        rw [gI_sI_at, liftL_get (by omega) (by omega)]
        by_cases z : j = b
        · rw [if_pos z, if_pos z]
        · rw [if_neg z, if_neg z, hc j hj, if_neg (show ¬ (a ≤ j ∧ j < b) by omega), Nat.add_zero]
      | succ k ih =>
        intro h1 hk e2 hg hc
        refine b_X11_liftedOf_70 hL (e2T e2 eT) _ _ _ _ _ ⟨fun z => absurd (nI_inj (by omega) (by omega) z) (by omega), fun _ => ?_⟩
        rw [show b + (k + 1) = b + k + 1 by omega, nI_dec]
        refine ⟨(inB_iff (by omega)).mpr (by omega), (inB_iff (by omega)).mpr (by omega), ?_⟩
        rw [nI_clamp (by omega), nI_clamp (by omega), hc _ (by omega), if_neg (by omega)]
        refine ih _ (by omega) e2 (fun x j hx => by rw [gI_sI_ne hx]; exact hg x j hx) (fun j hj => ?_)
        rw [gI_sI_at]
        by_cases z : j = b + k + 1
        · rw [if_pos z, if_pos (by omega), z, Nat.add_sub_cancel]
        · rw [if_neg z, hc j hj]
          by_cases y : b + k < j ∧ j ≤ a
          · rw [if_pos y, if_pos (by omega)]
          · rw [if_neg y, if_neg (by omega)]
    obtain ⟨k, e⟩ : ∃ k, a = b + k := ⟨a - b, by omega⟩
    have := key k h (by omega) rfl (fun _ _ _ => rfl) (fun j hj => by rw [if_neg (by omega)]; exact hc j hj)
    rw [← e] at this
    exact this
theorem s_liftedOf (hL : Lay T) (eT : h.2.2 = T) (hn : gI h 60 0 = nI n) (hl : l.length = n) (h7 : n ≤ 7) (dl : dg l) (ha : a < n) (hb : b < n) (K : ∀ h' : Hp, h'.2 = h.2 → (∀ x j, x ≠ 70 → gI h' x j = gI h x j) → Q (some (.int (nI (cd (liftL l a b))))) h') : Call (d + 0) MX11_liftedOf [.ref 59, .int (nI (cd l)), .int (nI a), .int (nI b)] h Q := by
  refine b_X11_liftedOf hL eT _ _ _ ?_
  rw [hn]
  have lt : ∀ k, k ≤ n → pc (fun i => l.getD i 0) k < 10000000 := fun k hk => by
    have := pc_lt (dg_get dl) k
    have : 10 ^ k ≤ 10 ^ 7 := Nat.pow_le_pow_right (by decide) (by omega)
    omega
  have key : ∀ k (h1 : Hp), k ≤ n → h1.2 = h.2 → (∀ x j, x ≠ 70 → gI h1 x j = gI h x j) → (∀ j, k ≤ j → j < n → gI h1 70 j = nI (l.getD j 0)) → L_X11_liftedOf_17 d (nI a) (nI b) (nI n) (nI (pc (fun i => l.getD i 0) k)) (nI k + (-1)) h1 Q := by
    intro k
    induction k with
    | zero =>
      intro h1 _ e2 hg hc
      refine b_X11_liftedOf_17 hL (e2T e2 eT) _ _ _ _ _ ⟨fun _ => ⟨(inB_iff (by omega)).mpr (by omega), ?_⟩, fun z => absurd (by decide) z⟩
      have := s_lf2 (d := d) hL (e2T e2 eT) hl h7 ha hb (fun j hj => hc j (by omega) hj) (fun h' e3 hg3 => K h' (e3.trans e2) (fun x j hx => (hg3 x j hx).trans (hg x j hx)))
      rw [nI_clamp (by omega), hc a (by omega) ha]
      refine ⟨fun z => ?_, fun z => ?_⟩
      · rw [if_pos z] at this; exact this
      · rw [if_neg z] at this; exact this
    | succ k ih =>
      intro h1 hk e2 hg hc
      rw [nI_dec]
      have l1 := lt k (by omega)
      have l2 := lt (k + 1) hk
      have l3 := dg_get dl k
      have e1 : pc (fun i => l.getD i 0) (k + 1) / 10 = pc (fun i => l.getD i 0) k := by
        show (10 * pc (fun i => l.getD i 0) k + l.getD k 0) / 10 = _
        omega
      have e3 : pc (fun i => l.getD i 0) (k + 1) % 10 = l.getD k 0 := by
        show (10 * pc (fun i => l.getD i 0) k + l.getD k 0) % 10 = _
        omega
      refine b_X11_liftedOf_17 hL (e2T e2 eT) _ _ _ _ _ ⟨fun z => absurd z (nI_pos (by omega)), fun _ => ⟨(inB_iff (by omega)).mpr (by omega), ?_⟩⟩
      rw [pk_div (by omega) (by decide) (by decide), irem_nI (by omega) (by decide) (by decide), e1, e3, nI_clamp (by omega)]
      refine ih _ (by omega) e2 (fun x j hx => by rw [gI_sI_ne hx]; exact hg x j hx) (fun j h1 h2 => ?_)
      rw [gI_sI_at]
      by_cases z : j = k
      · rw [if_pos z, z]
      · rw [if_neg z]; exact hc j (by omega) h2
  have e0 : nI n - nI 1 = nI n + (-1) := by
    have e : (-1 : Int32) = - nI 1 := by decide
    rw [e, ← Int32.sub_eq_add_neg]
  rw [e0]
  have := key n h (Nat.le_refl _) rfl (fun _ _ _ => rfl) (fun j h1 h2 => by omega)
  rw [show pc (fun i => l.getD i 0) n = cd l by unfold cd; rw [hl]] at this
  exact this
end Lfd
-- where a number lies in the table
def hs0 (c : Nat) : Nat := c * 40503 % 2 ^ 31 % 16384
def pr (c k : Nat) : Nat := (hs0 c + k) % 16384
def St (h : Hp) (c p : Nat) : Prop := ∃ k, p = pr c k ∧ (∀ j, j < k → gI h 67 (pr c j) ≠ -1 ∧ gI h 67 (pr c j) ≠ nI c) ∧ (gI h 67 p = -1 ∨ gI h 67 p = nI c)
theorem St.uniq {h : Hp} {c p p' : Nat} (s : St h c p) (s' : St h c p') : p = p' := by
  obtain ⟨k, e, f, g⟩ := s
  obtain ⟨k', e', f', g'⟩ := s'
  rcases Nat.lt_trichotomy k k' with q | q | q
  · have := f' k q
    rw [← e] at this
    rcases g with g | g
    · exact absurd g this.1
    · exact absurd g this.2
  · rw [e, e', q]
  · have := f k' q
    rw [← e'] at this
    rcases g' with g | g
    · exact absurd g this.1
    · exact absurd g this.2
section Plc
variable {d : Nat} {T : HT} {h : Hp} {Q : Option Value → Hp → Prop} {c : Nat}
theorem s_placeOf (hL : Lay T) (eT : h.2.2 = T) (he : ∃ e, e < 16384 ∧ gI h 67 e = -1) (K : ∀ p, p < 16384 → St h c p → Q (some (.int (nI p))) h) : Call (d + 0) MX11_placeOf [.ref 59, .int (nI c)] h Q := by
  obtain ⟨e, e1, e2⟩ := he
  have h0 : hs0 c < 16384 := Nat.mod_lt _ (by decide)
  have pl : ∀ k, pr c k < 16384 := fun k => Nat.mod_lt _ (by decide)
  have ee : pr c ((e + 16384 - hs0 c) % 16384) = e := by unfold pr; omega
  obtain ⟨m, _, m2, m3⟩ := least (p := fun k => gI h 67 (pr c k) = -1 ∨ gI h 67 (pr c k) = nI c) _ (Or.inl (by rw [ee]; exact e2))
  refine b_X11_placeOf hL eT _ ?_
  have em : irem ((nI c * nI 40503) &&& (nI 2147483647)) (nI 16384) = nI (pr c 0) := by
    have := fa_mask (c * 40503) 31
    have lt : c * 40503 % 2 ^ 31 < 2 ^ 31 := Nat.mod_lt _ (by decide)
    rw [pk_mul, show nI 2147483647 = nI (2 ^ 31 - 1) by rfl, this, irem_nI lt (by decide) (by decide)]
    unfold pr hs0
    rw [Nat.add_zero, Nat.mod_mod]
  rw [em]
  refine upto m (fun i h1 => h1 = h) (fun i h1 => L_X11_placeOf_12 d (nI c) (nI (pr c i)) h1 Q) ?_ ?_ 0 h (Nat.zero_le _) rfl
  · rintro i h1 hi rfl ih
    have p := pl i
    have no := m3 i hi
    refine b_X11_placeOf_12 hL eT _ _ ?_
    rw [nI_clamp (by omega), nI_add, irem_nI (by omega) (by decide) (by decide), show (pr c i + 1) % 16384 = pr c (i + 1) by unfold pr; omega]
    exact ⟨(inB_iff (by omega)).mpr p, fun q => absurd (Or.inl q) no, fun _ => ⟨(inB_iff (by omega)).mpr p, fun q => absurd (Or.inr q) no, fun _ => ih _ rfl⟩⟩
  · rintro h1 rfl
    have p := pl m
    have st : St h1 c (pr c m) := ⟨m, rfl, fun j hj => ⟨fun q => m3 j hj (Or.inl q), fun q => m3 j hj (Or.inr q)⟩, m2⟩
    refine b_X11_placeOf_12 hL eT _ _ ?_
    rw [nI_clamp (by omega)]
    refine ⟨(inB_iff (by omega)).mpr p, fun q => K _ p st, fun q => ⟨(inB_iff (by omega)).mpr p, fun q => K _ p st, fun q2 => ?_⟩⟩
    rcases m2 with x | x
    · exact absurd x q
    · exact absurd x q2
end Plc
