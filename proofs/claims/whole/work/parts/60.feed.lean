-- bytes fed
def byt (x : Int32) (q : Nat) : Nat := ((x >>> (nI (24 - 8 * q) &&& 31)) &&& nI 255).toNatClampNeg
theorem byt_ok (x : Int32) {q : Nat} (hq : q < 4) : byt x q < 256 ∧ (x >>> (nI (24 - 8 * q) &&& 31)) &&& nI 255 = nI (byt x q) ∧ vp_nar .byte (ushr x (nI (24 - 8 * q))).toInt8.toInt32 = (nI (byt x q)).toInt8.toInt32 := by
  obtain ⟨j, hj, e⟩ := pk_andE (x >>> (nI (24 - 8 * q) &&& 31)) (m := nI 255) 8 (by decide)
  have eb : byt x q = j := by unfold byt; rw [e, nI_clamp (by omega)]
  refine ⟨by rw [eb]; omega, by rw [eb, e], ?_⟩
  have k : (ushr x (nI (24 - 8 * q))) &&& 255 = (x >>> (nI (24 - 8 * q) &&& 31)) &&& 255 := by
    apply b_ext
    intro i hi
    rw [b_and, b_and, b_255]
    by_cases z : i < 8
    · have e1 := b_ushr (24 - 8 * q) (by omega) x i
      have e2 := b_sshr (24 - 8 * q) (by omega) x hi
      rw [if_pos (by omega)] at e2
      rw [show bt (ushr x (nI (24 - 8 * q))) i = bt x (24 - 8 * q + i) from e1, e2]
    · rw [decide_eq_false z, Bool.and_false, Bool.and_false]
  rw [pk_vb, ← fa_byte_low, k, show (255 : Int32) = nI 255 from rfl, e, eb]
def sel5 (x1 x2 x3 x4 x5 : Int32) (q : Nat) : Int32 := if q = 0 then x1 else if q = 1 then x2 else if q = 2 then x3 else if q = 3 then x4 else x5
section Feed
variable {d : Nat} {T : HT} {h : Hp} {Q : Option Value → Hp → Prop}
def shf (i : Nat) : Int32 := if i < 4 then nI (24 - 8 * i) else -8
theorem shf_succ : ∀ i, i < 4 → shf i + (-8) = shf (i + 1) := by decide +kernel
theorem shf_pos : ∀ i, i < 4 → ¬ shf i < 0 := by decide +kernel
theorem s_add (hL : Lay T) (eT : h.2.2 = T) {n : Nat} (hn : gI h 3 0 = nI n) (h4 : n + 4 ≤ 400) (x : Int32) (K : ∀ h' : Hp, h'.2 = h.2 → (∀ b j, b ≠ 7 → (b = 3 → j ≠ 0) → gI h' b j = gI h b j) → gI h' 3 0 = nI (n + 4) → (∀ j, gI h' 7 j = if n ≤ j ∧ j < n + 4 then (nI (byt x (j - n))).toInt8.toInt32 else gI h 7 j) → Q none h') : Call (d + 0) MX9_add [.ref 3, .int x] h Q := by
  refine b_X9_add hL eT _ ?_
  refine upto 4 (fun i h1 => h1.2 = h.2 ∧ (∀ b j, b ≠ 7 → (b = 3 → j ≠ 0) → gI h1 b j = gI h b j) ∧ gI h1 3 0 = nI (n + i) ∧ ∀ j, gI h1 7 j = if n ≤ j ∧ j < n + i then (nI (byt x (j - n))).toInt8.toInt32 else gI h 7 j) (fun i h1 => L_X9_add_3 d x (shf i) h1 Q) ?_ ?_ 0 h (by decide) ⟨rfl, fun _ _ _ _ => rfl, hn, fun j => by rw [if_neg (by omega)]⟩
  · rintro i h1 hi ⟨t, g, n1, z⟩ ih
    have es : shf i = nI (24 - 8 * i) := by unfold shf; rw [if_pos hi]
    refine b_X9_add_3 hL (e2T t eT) _ _ ⟨fun q => absurd q (shf_pos i hi), fun _ => ?_⟩
    rw [n1, nI_clamp (by omega), shf_succ i hi, gI_sI_ne (by decide), n1, nI_add, es, (byt_ok x hi).2.2]
    refine ⟨fun _ => ⟨(inB_iff (by omega)).mpr (by omega), ih _ ⟨t, fun b j u v => ?_, rfl, fun j => ?_⟩⟩, fun q => absurd (nI_lt (by omega) (by decide)) q⟩
    · rw [gI_sI, if_neg (fun q => v q.1 q.2), gI_sI_ne u]; exact g b j u v
    · rw [gI_sI_ne (by decide), gI_sI_at]
      by_cases v : j = n + i
      · rw [if_pos v, if_pos (by omega), show j - n = i by omega]
      · rw [if_neg v, z]
        by_cases y : n ≤ j ∧ j < n + i
        · rw [if_pos y, if_pos (by omega)]
        · rw [if_neg y, if_neg (by omega)]
  · rintro h1 ⟨t, g, n1, z⟩
    exact b_X9_add_3 hL (e2T t eT) _ _ ⟨fun _ => K h1 t g n1 z, fun q => absurd (by decide) q⟩
theorem s_feedC (hL : Lay T) (eT : h.2.2 = T) {n : Nat} (hn : gI h 3 0 = nI n) (h20 : n + 20 ≤ 400) (x1 x2 x3 x4 x5 : Int32) (K : ∀ h' : Hp, h'.2 = h.2 → (∀ b j, b ≠ 7 → (b = 3 → j ≠ 0) → gI h' b j = gI h b j) → gI h' 3 0 = nI (n + 20) → (∀ j, j < n → gI h' 7 j = gI h 7 j) → (∀ i, i < 20 → gI h' 7 (n + i) = (nI (byt (sel5 x1 x2 x3 x4 x5 (i / 4)) (i % 4))).toInt8.toInt32) → Q (some (.int (nI (n + 20)))) h') : Call (d + 1) MX10_feed [.ref 1, .int x1, .int x2, .int x3, .int x4, .int x5] h Q := by
  refine b_X10_feed hL eT _ _ _ _ _ ?_
  rw [hn]
  refine ⟨fun z => absurd z (nI_nlt (by omega) (by decide)), fun _ => ?_⟩
  refine s_add (d := d) hL eT hn (by omega) x1 (fun a1 t1 g1 n1 z1 => ⟨rfl, e2T t1 eT, ?_⟩)
  refine s_add (d := d) hL (e2T t1 eT) n1 (by omega) x2 (fun a2 t2 g2 n2 z2 => ⟨rfl, e2T (t2.trans t1) eT, ?_⟩)
  refine s_add (d := d) hL (e2T (t2.trans t1) eT) n2 (by omega) x3 (fun a3 t3 g3 n3 z3 => ⟨rfl, e2T (t3.trans (t2.trans t1)) eT, ?_⟩)
  refine s_add (d := d) hL (e2T (t3.trans (t2.trans t1)) eT) n3 (by omega) x4 (fun a4 t4 g4 n4 z4 => ⟨rfl, e2T (t4.trans (t3.trans (t2.trans t1))) eT, ?_⟩)
  refine s_add (d := d) hL (e2T (t4.trans (t3.trans (t2.trans t1))) eT) n4 (by omega) x5 (fun a5 t5 g5 n5 z5 => ⟨rfl, e2T (t5.trans (t4.trans (t3.trans (t2.trans t1)))) eT, ?_⟩)
  rw [n5, show n + 4 + 4 + 4 + 4 + 4 = n + 20 by omega]
  refine K a5 (t5.trans (t4.trans (t3.trans (t2.trans t1)))) (fun b j u v => by rw [g5 b j u v, g4 b j u v, g3 b j u v, g2 b j u v, g1 b j u v]) n5 (fun j hj => ?_) (fun i hi => ?_)
  · rw [z5, if_neg (by omega), z4, if_neg (by omega), z3, if_neg (by omega), z2, if_neg (by omega), z1, if_neg (by omega)]
  · have : i / 4 = 0 ∨ i / 4 = 1 ∨ i / 4 = 2 ∨ i / 4 = 3 ∨ i / 4 = 4 := by omega
    rcases this with q | q | q | q | q
    · rw [z5, if_neg (by omega), z4, if_neg (by omega), z3, if_neg (by omega), z2, if_neg (by omega), z1, if_pos (by omega), q, show n + i - n = i % 4 by omega]; rfl
    · rw [z5, if_neg (by omega), z4, if_neg (by omega), z3, if_neg (by omega), z2, if_pos (by omega), q, show n + i - (n + 4) = i % 4 by omega]; rfl
    · rw [z5, if_neg (by omega), z4, if_neg (by omega), z3, if_pos (by omega), q, show n + i - (n + 4 + 4) = i % 4 by omega]; rfl
    · rw [z5, if_neg (by omega), z4, if_pos (by omega), q, show n + i - (n + 4 + 4 + 4) = i % 4 by omega]; rfl
    · rw [z5, if_pos (by omega), q, show n + i - (n + 4 + 4 + 4 + 4) = i % 4 by omega]; rfl
theorem s_feedM (hL : Lay T) (eT : h.2.2 = T) {n : Nat} (hn : gI h 59 8 = nI n) (h20 : n + 20 ≤ 400) (x1 x2 x3 x4 x5 : Int32) (K : ∀ h' : Hp, h'.2 = h.2 → (∀ b j, b ≠ 64 → (b = 59 → j ≠ 8) → gI h' b j = gI h b j) → gI h' 59 8 = nI (n + 20) → (∀ j, j < n → gI h' 64 j = gI h 64 j) → (∀ i, i < 20 → gI h' 64 (n + i) = nI (byt (sel5 x1 x2 x3 x4 x5 (i / 4)) (i % 4))) → Q (some (.int (nI (n + 20)))) h') : Call (d + 0) MX11_feed [.ref 59, .int x1, .int x2, .int x3, .int x4, .int x5] h Q := by
  refine b_X11_feed hL eT _ _ _ _ _ ?_
  rw [hn, nI_add]
  refine ⟨fun z => absurd z (nI_nlt (by omega) (by decide)), fun _ => ?_⟩
  refine upto 20 (fun i h1 => h1.2 = h.2 ∧ (∀ b j, b ≠ 64 → (b = 59 → j ≠ 8) → gI h1 b j = gI h b j) ∧ gI h1 59 8 = nI (n + i) ∧ (∀ j, j < n → gI h1 64 j = gI h 64 j) ∧ ∀ k, k < i → gI h1 64 (n + k) = nI (byt (sel5 x1 x2 x3 x4 x5 (k / 4)) (k % 4))) (fun i h1 => L_X11_feed_18 d x1 x2 x3 x4 x5 (nI i) h1 Q) ?_ ?_ 0 h (by decide) ⟨rfl, fun _ _ _ _ => rfl, hn, fun _ _ => rfl, fun k hk => by omega⟩
  · rintro i h1 hi ⟨t, g, n1, lo, z⟩ ih
    have es : nI 24 - nI 8 * irem (nI i) (nI 4) = nI (24 - 8 * (i % 4)) := by rw [irem_nI (by omega) (by decide) (by decide), pk_mul, pk_sub (by omega)]
    have step : ∀ x, x = sel5 x1 x2 x3 x4 x5 (i / 4) → inB (nI (n + i)) 400 = true ∧ L_X11_feed_18 d x1 x2 x3 x4 x5 (nI (i + 1)) (sI (sI h1 64 (n + i) ((x >>> (nI (24 - 8 * (i % 4)) &&& 31)) &&& nI 255)) 59 8 (nI (n + i) + nI 1)) Q := by
      intro x ex
      subst ex
      rw [(byt_ok _ (show i % 4 < 4 by omega)).2.1, nI_add]
      refine ⟨(inB_iff (by omega)).mpr (by omega), ih _ ⟨t, fun b j u v => ?_, rfl, fun j hj => ?_, fun k hk => ?_⟩⟩
      · rw [gI_sI, if_neg (fun q => v q.1 q.2), gI_sI_ne u]; exact g b j u v
      · rw [gI_sI_ne (by decide), gI_sI_at, if_neg (by omega)]; exact lo j hj
      · rw [gI_sI_ne (by decide), gI_sI_at]
        by_cases v : n + k = n + i
        · rw [if_pos v, show k = i by omega]
        · rw [if_neg v]; exact z k (by omega)
    refine b_X11_feed_18 hL (e2T t eT) _ _ _ _ _ _ ?_
    have ge : ∀ v : Int32, gI (sI h1 64 (n + i) v) 59 8 = nI (n + i) := fun v => by rw [gI_sI_ne (by decide)]; exact n1
    rw [n1, nI_clamp (by omega), es, ge, ge, ge, ge, ge, nI_add i 1]
    have lt : ∀ m : Nat, m < 100 → ((nI i < nI m) ↔ i < m) := fun m hm => nI_ltI (by omega) (by omega)
    rw [lt 20 (by decide), lt 4 (by decide), lt 8 (by decide), lt 12 (by decide), lt 16 (by decide)]
    refine ⟨fun _ => ⟨fun q => step x1 ?_, fun q => ⟨fun q2 => step x2 ?_, fun q2 => ⟨fun q3 => step x3 ?_, fun q3 => ⟨fun q4 => step x4 ?_, fun q4 => step x5 ?_⟩⟩⟩⟩, fun q => absurd hi q⟩
    · unfold sel5; rw [if_pos (by omega)]
    · unfold sel5; rw [if_neg (by omega), if_pos (by omega)]
    · unfold sel5; rw [if_neg (by omega), if_neg (by omega), if_pos (by omega)]
    · unfold sel5; rw [if_neg (by omega), if_neg (by omega), if_neg (by omega), if_pos (by omega)]
    · unfold sel5; rw [if_neg (by omega), if_neg (by omega), if_neg (by omega), if_neg (by omega)]
  · rintro h1 ⟨t, g, n1, lo, z⟩
    refine b_X11_feed_18 hL (e2T t eT) _ _ _ _ _ _ ⟨fun q => absurd q (by decide), fun _ => ?_⟩
    rw [n1]
    exact K h1 t g n1 lo z
theorem op_feed {L : Nat} {xs : Nat → Int32} (I : Inv L xs h) (x1 x2 x3 x4 x5 : Int32) : Op MX10_feed MX11_feed [.int x1, .int x2, .int x3, .int x4, .int x5] h (Inv L xs) := by
  obtain ⟨R, C⟩ := id I
  have hL := R.1
  obtain ⟨r1, ⟨n, tp, t1, t2, t3, t4⟩, r3, r4, r5, r6, r7⟩ := id R
  by_cases q : n + 20 ≤ 400
  · refine s_feedC (d := 38) hL rfl t2 q x1 x2 x3 x4 x5 (fun h1 e1 g1 n1 lo1 z1 => ⟨_, rfl, ?_⟩)
    refine s_feedM (d := 39) (by rw [e1]; exact hL) rfl (by rw [g1 _ _ (by decide) (by decide)]; exact t3) q x1 x2 x3 x4 x5 (fun h2 e2 g2 n2 lo2 z2 => ⟨rfl, ?_⟩)
    have gA : ∀ b j, b ≠ 7 → (b = 3 → j ≠ 0) → b ≠ 64 → (b = 59 → j ≠ 8) → gI h2 b j = gI h b j := fun b j u1 u2 u3 u4 => by rw [g2 b j u3 u4, g1 b j u1 u2]
    have gJA : ∀ b j, gJ h2 b j = gJ h b j := fun b j => by rw [gJ_e2 e2, gJ_e2 e1]
    have eT2 : h2.2.2 = h.2.2 := by rw [e2, e1]
    refine ⟨⟨by rw [eT2]; exact r1, ⟨n + 20, fun i => if i < n then tp i else byt (sel5 x1 x2 x3 x4 x5 ((i - n) / 4)) ((i - n) % 4), q, ?_, n2, fun i hi => ?_⟩, ?_, fun j hj => ?_, r5.tr eT2 (fun b j u => gA b j (by omega) (by omega) (by omega) (by omega)) (fun b j _ => gJA b j) (fun j => gA _ _ (by omega) (by omega) (by omega) (by omega)) (gA _ _ (by omega) (by omega) (by omega) (by omega)), r6.tr eT2, r7.tr eT2 (fun j => gA _ _ (by omega) (by omega) (by omega) (by omega))⟩, C.tr (fun b j u => gA b j (by omega) (by omega) (by omega) (by omega)) (fun b j _ _ => gJA b j) (gA _ _ (by omega) (by omega) (by omega) (by omega))⟩
    · rw [g2 _ _ (by decide) (by decide)]; exact n1
    · dsimp only
      by_cases z : i < n
      · rw [if_pos z, g2 7 i (by decide) (by omega), lo1 i z, lo2 i z, g1 64 i (by decide) (by omega)]
        exact t4 i z
      · rw [if_neg z]
        have a1 := z1 (i - n) (by omega)
        have a2 := z2 (i - n) (by omega)
        rw [show n + (i - n) = i by omega] at a1 a2
        rw [g2 7 i (by decide) (by omega), a1, a2]
        exact ⟨(byt_ok _ (show (i - n) % 4 < 4 by omega)).1, rfl, rfl⟩
    · unfold FL
      rw [gA 2 0 (by omega) (by omega) (by omega) (by omega), gA 2 1 (by omega) (by omega) (by omega) (by omega), gA 59 15 (by omega) (by omega) (by omega) (by omega), gA 59 16 (by omega) (by omega) (by omega) (by omega)]
      exact r3
    · rw [gA _ _ (by omega) (by omega) (by omega) (by omega), gA _ _ (by omega) (by omega) (by omega) (by omega)]
      exact r4 j hj
  · refine b_X10_feed (d := 38) hL rfl _ _ _ _ _ ?_
    rw [t2]
    refine ⟨fun _ => ⟨_, rfl, b_X11_feed (d := 39) hL rfl _ _ _ _ _ ?_⟩, fun z => absurd (nI_lt (by omega) (by omega)) z⟩
    rw [t3, nI_add]
    exact ⟨fun _ => ⟨rfl, I⟩, fun z => absurd (nI_lt (by omega) (by omega)) z⟩
end Feed
