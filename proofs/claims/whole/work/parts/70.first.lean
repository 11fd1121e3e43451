section Fst
variable {d : Nat} {T : HT} {h : Hp} {Q : Option Value → Hp → Prop} {n c a b : Nat} {l t : List Nat}
theorem least {p : Nat → Prop} : ∀ n, p n → ∃ m, m ≤ n ∧ p m ∧ ∀ k, k < m → ¬ p k := by
  intro n
  induction n using Nat.strongRecOn with
  | ind n ih =>
    intro hn
    by_cases z : ∃ k, k < n ∧ p k
    · obtain ⟨k, x1, x2⟩ := z
      obtain ⟨m, x, y, w⟩ := ih k x1 x2
      exact ⟨m, by omega, y, w⟩
    · exact ⟨n, Nat.le_refl _, hn, fun k x1 x2 => z ⟨k, x1, x2⟩⟩
def FP (l t : List Nat) (c a b : Nat) : Prop := a < l.length ∧ b < l.length ∧ IsL (liftL l a b) t (c + 1) ∧ (∀ a' b', a' < a → b' < l.length → ¬ IsL (liftL l a' b') t (c + 1)) ∧ (∀ b', b' < b → ¬ IsL (liftL l a b') t (c + 1))
theorem FP.ex (hp : l.Perm t) (k : IsL l t c) (hc : c < t.length) : ∃ a b, FP l t c a b := by
  obtain ⟨a, b, ha, hb, _, k1⟩ := lift_up hp k hc
  obtain ⟨a0, x1, ⟨b1, y1, y2⟩, x3⟩ := least (p := fun a => ∃ b, b < l.length ∧ IsL (liftL l a b) t (c + 1)) a ⟨b, hb, k1⟩
  obtain ⟨b0, w1, w2, w3⟩ := least (p := fun b => IsL (liftL l a0 b) t (c + 1)) b1 y2
  exact ⟨a0, b0, by omega, by omega, w2, fun a' b' u v z => x3 a' u ⟨b', v, z⟩, w3⟩
theorem Nd.one {r : Int32} (hp : l.Perm t) (h7 : t.length ≤ 7) (ha : a < l.length) (hb : b < l.length) (hc : c < t.length) (nd : Nd (liftL l a b) t r) : (r = nI (t.length - c) - nI 1) ↔ IsL (liftL l a b) t (c + 1) := by
  rcases nd with ⟨_, c', k, e⟩ | ⟨p, _⟩
  · have := k.le
    rw [e, pk_sub (by omega), nI_eq (by omega) (by omega)]
    constructor
    · intro q
      have : c' = c + 1 := by omega
      rw [← this]; exact k
    · intro q
      have := k.uniq q
      omega
  · exact absurd ((lift_perm ha hb).trans hp) p
theorem s_firstOf (hL : Lay T) (eT : h.2.2 = T) (hl : l.length = n) (ht : t.length = n) (h7 : n ≤ 7) (dl : dg l) (dt : dg t) (z : LZ h) (hp : l.Perm t) (hc : c < n) (f : FP l t c a b) (K : ∀ h' : Hp, h'.2 = h.2 → (∀ b j, b ≠ 49 → gI h' b j = gI h b j) → LZ h' → Q (some (.int (r_X4_packed (nI 0) (nI a) (nI b) (-1)))) h') : Call (d + 4) MX3_firstOf [.ref 48, .int (nI (n - c)), .long (lN (enc l)), .long (lN (enc t)), .int (nI n)] h Q := by
  obtain ⟨f1, f2, f3, f4, f5⟩ := f
  have one : ∀ (a' b' : Nat) (h1 : Hp), a' < n → b' < n → h1.2 = h.2 → (∀ b j, b ≠ 49 → gI h1 b j = gI h b j) → LZ h1 → (∀ h2 : Hp, h2.2 = h.2 → (∀ b j, b ≠ 49 → gI h2 b j = gI h b j) → LZ h2 → IsL (liftL l a' b') t (c + 1) → Q (some (.int (r_X4_packed (nI 0) (nI a') (nI b') (-1)))) h2) → (∀ h2 : Hp, h2.2 = h.2 → (∀ b j, b ≠ 49 → gI h2 b j = gI h b j) → LZ h2 → ¬ IsL (liftL l a' b') t (c + 1) → L_X3_firstOf_13 d (nI (n - c)) (lN (enc l)) (lN (enc t)) (nI n) (nI a') (nI (b' + 1)) h2 Q) → L_X3_firstOf_13 d (nI (n - c)) (lN (enc l)) (lN (enc t)) (nI n) (nI a') (nI b') h1 Q := by
    intro a' b' h1 ha hb e2 hg lz yes no
    refine b_X3_firstOf_13 hL (e2T e2 eT) _ _ _ _ _ _ ⟨fun _ => ?_, fun z => absurd (nI_lt hb (by omega)) z⟩
    rw [lifted_enc (dg_sm dl) (by omega) (by omega) (by omega), nI_add]
    refine s_needed (d := d) hL (e2T e2 eT) (by rw [len_lift (by omega) (by omega)]; exact hl) ht h7 (dg_perm dl (lift_perm (by omega) (by omega))) dt lz (fun h2 r e3 hg2 lz2 nd => ⟨r, rfl, e2T (e3.trans e2) eT, ?_⟩)
    have key := nd.one (c := c) hp (by omega) (by omega) (by omega) (by omega)
    rw [ht] at key
    have g2 : ∀ b j, b ≠ 49 → gI h2 b j = gI h b j := fun b j hb => (hg2 b j hb).trans (hg b j hb)
    exact ⟨fun q => yes h2 (e3.trans e2) g2 lz2 (key.mp q), fun q => no h2 (e3.trans e2) g2 lz2 (fun k => q (key.mpr k))⟩
  refine b_X3_firstOf hL eT _ _ _ _ ?_
  refine upto a (fun i h1 => h1.2 = h.2 ∧ (∀ b j, b ≠ 49 → gI h1 b j = gI h b j) ∧ LZ h1) (fun i h1 => L_X3_firstOf_3 d (nI (n - c)) (lN (enc l)) (lN (enc t)) (nI n) (nI i) h1 Q) ?_ ?_ 0 h (Nat.zero_le _) ⟨rfl, fun _ _ _ => rfl, z⟩
  · rintro i h1 hi ⟨e2, hg, lz⟩ ih
    refine b_X3_firstOf_3 hL (e2T e2 eT) _ _ _ _ _ ⟨fun _ => ?_, fun z => absurd (nI_lt (by omega) (by omega)) z⟩
    refine upto n (fun j h1 => h1.2 = h.2 ∧ (∀ b j, b ≠ 49 → gI h1 b j = gI h b j) ∧ LZ h1) (fun j h1 => L_X3_firstOf_13 d (nI (n - c)) (lN (enc l)) (lN (enc t)) (nI n) (nI i) (nI j) h1 Q) ?_ ?_ 0 h1 (Nat.zero_le _) ⟨e2, hg, lz⟩
    · rintro j h1 hj ⟨e2, hg, lz⟩ ih2
      exact one i j h1 (by omega) hj e2 hg lz (fun h2 _ _ _ k => absurd k (f4 i j hi (by omega))) (fun h2 e hg lz _ => ih2 h2 ⟨e, hg, lz⟩)
    · rintro h1 ⟨e2, hg, lz⟩
      refine b_X3_firstOf_13 hL (e2T e2 eT) _ _ _ _ _ _ ⟨fun z => absurd z (nI_nlt (Nat.le_refl _) (by omega)), fun _ => ?_⟩
      rw [nI_add]
      exact ih h1 ⟨e2, hg, lz⟩
  · rintro h1 ⟨e2, hg, lz⟩
    refine b_X3_firstOf_3 hL (e2T e2 eT) _ _ _ _ _ ⟨fun _ => ?_, fun z => absurd (nI_lt (by omega) (by omega)) z⟩
    refine upto b (fun j h1 => h1.2 = h.2 ∧ (∀ b j, b ≠ 49 → gI h1 b j = gI h b j) ∧ LZ h1) (fun j h1 => L_X3_firstOf_13 d (nI (n - c)) (lN (enc l)) (lN (enc t)) (nI n) (nI a) (nI j) h1 Q) ?_ ?_ 0 h1 (Nat.zero_le _) ⟨e2, hg, lz⟩
    · rintro j h1 hj ⟨e2, hg, lz⟩ ih2
      exact one a j h1 (by omega) (by omega) e2 hg lz (fun h2 _ _ _ k => absurd k (f5 j hj)) (fun h2 e hg lz _ => ih2 h2 ⟨e, hg, lz⟩)
    · rintro h1 ⟨e2, hg, lz⟩
      exact one a b h1 (by omega) (by omega) e2 hg lz (fun h2 e hg lz _ => K h2 e hg lz) (fun h2 _ _ _ k => absurd f3 k)
end Fst
