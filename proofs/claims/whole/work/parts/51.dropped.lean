-- which strand was dropped when
def su (f : Nat → Nat) : Nat → Nat
  | 0 => 0
  | i + 1 => su f i + f i
theorem su_le {f : Nat → Nat} {B : Nat} (hf : ∀ i, f i ≤ B) : ∀ m, su f m ≤ m * B
  | 0 => Nat.zero_le _
  | m + 1 => by
    have := su_le hf m
    have := hf m
    show su f m + f m ≤ (m + 1) * B
    rw [Nat.succ_mul]
    omega
theorem su_add (f g : Nat → Nat) : ∀ m, su (fun i => f i + g i) m = su f m + su g m
  | 0 => rfl
  | m + 1 => by
    show su (fun i => f i + g i) m + (f m + g m) = su f m + f m + (su g m + g m)
    rw [su_add f g m]
    omega
theorem su_zero : ∀ m, su (fun _ => 0) m = 0
  | 0 => rfl
  | m + 1 => by
    show su (fun _ => 0) m + 0 = 0
    rw [su_zero m]
theorem su_comm (f : Nat → Nat → Nat) (b : Nat) : ∀ a, su (fun i => su (fun j => f i j) b) a = su (fun j => su (fun i => f i j) a) b
  | 0 => (su_zero b).symm
  | a + 1 => by
    show su (fun i => su (fun j => f i j) b) a + su (fun j => f a j) b = su (fun j => su (fun i => f i j) a + f a j) b
    rw [su_comm f b a, su_add]
def b2n (b : Bool) : Nat := if b = true then 1 else 0
theorem b2n_le (b : Bool) : b2n b ≤ 1 := by cases b <;> decide
/-- the first of the found ones: the least strand, then the least time -/
def Ds (D : Nat → Nat → Bool) (S : Nat → Nat → Prop) (a : Nat) (u v : Int32) : Prop := ((∀ x t, S x t → D x t = false) ∧ a = 0 ∧ u = -1 ∧ v = -1) ∨ (0 < a ∧ ∃ x0 t0, S x0 t0 ∧ D x0 t0 = true ∧ u = nI x0 ∧ v = nI t0 ∧ ∀ x t, S x t → D x t = true → x0 < x ∨ (x0 = x ∧ t0 ≤ t))
theorem Ds.congr {D : Nat → Nat → Bool} {S S' : Nat → Nat → Prop} {a : Nat} {u v : Int32} (h : Ds D S a u v) (e : ∀ x t, S x t ↔ S' x t) : Ds D S' a u v := by
  rcases h with ⟨h1, h2⟩ | ⟨h1, x0, t0, h2, h3, h4, h5, h6⟩
  · exact Or.inl ⟨fun x t s => h1 x t ((e x t).mpr s), h2⟩
  · exact Or.inr ⟨h1, x0, t0, (e _ _).mp h2, h3, h4, h5, fun x t s => h6 x t ((e x t).mpr s)⟩
theorem Ds_uniq {D : Nat → Nat → Bool} {S : Nat → Nat → Prop} {a : Nat} {u v u' v' : Int32} (h : Ds D S a u v) (h' : Ds D S a u' v') : u' = u ∧ v' = v := by
  rcases h with ⟨h1, h2, h3, h4⟩ | ⟨h1, x0, t0, h2, h3, h4, h5, h6⟩
  · rcases h' with ⟨k1, k2, k3, k4⟩ | ⟨k1, _⟩
    · rw [h3, h4, k3, k4]; exact ⟨rfl, rfl⟩
    · omega
  · rcases h' with ⟨_, k2, _⟩ | ⟨k1, x1, t1, k2, k3, k4, k5, k6⟩
    · omega
    · have a1 := h6 x1 t1 k2 k3
      have a2 := k6 x0 t0 h2 h3
      have : x1 = x0 ∧ t1 = t0 := by omega
      rw [h4, h5, k4, k5, this.1, this.2]
      exact ⟨rfl, rfl⟩
theorem Ds_no {D : Nat → Nat → Bool} {S : Nat → Nat → Prop} {a x t : Nat} {u v : Int32} (h : Ds D S a u v) (hd : D x t = false) : Ds D (fun x' t' => S x' t' ∨ (x' = x ∧ t' = t)) a u v := by
  rcases h with ⟨h1, h2⟩ | ⟨h1, x0, t0, h2, h3, h4, h5, h6⟩
  · exact Or.inl ⟨fun x' t' s => s.elim (h1 x' t') (fun e => by rw [e.1, e.2]; exact hd), h2⟩
  · refine Or.inr ⟨h1, x0, t0, Or.inl h2, h3, h4, h5, fun x' t' s d => s.elim (fun s => h6 x' t' s d) (fun e => ?_)⟩
    rw [e.1, e.2, hd] at d
    exact absurd d (by decide)
theorem Ds_new {D : Nat → Nat → Bool} {S : Nat → Nat → Prop} {a x t : Nat} {u v : Int32} (h : Ds D S a u v) (hd : D x t = true) (hl : a = 0 ∨ ∃ x0, u = nI x0 ∧ x < x0 ∧ x0 < 100) (hb : ∀ x0 t0, S x0 t0 → x0 < 100) : Ds D (fun x' t' => S x' t' ∨ (x' = x ∧ t' = t)) (a + 1) (nI x) (nI t) := by
  refine Or.inr ⟨by omega, x, t, Or.inr ⟨rfl, rfl⟩, hd, rfl, rfl, fun x' t' s d => s.elim (fun s => ?_) (fun e => Or.inr ⟨e.1.symm, by omega⟩)⟩
  rcases h with ⟨h1, _⟩ | ⟨h1, x0, t0, h2, h3, h4, h5, h6⟩
  · rw [h1 x' t' s] at d; exact absurd d (by decide)
  · rcases hl with hl | ⟨y, hy, hlt, hy2⟩
    · omega
    · have : x0 = y := nI_inj (by have := hb _ _ h2; omega) (by omega) (h4.symm.trans hy)
      have := h6 x' t' s d
      omega
theorem Ds_old {D : Nat → Nat → Bool} {S : Nat → Nat → Prop} {a x t : Nat} {u v : Int32} (h : Ds D S a u v) (ha : 0 < a) (hk : ∀ x0 t0, S x0 t0 → u = nI x0 → x0 < x ∨ (x0 = x ∧ t0 ≤ t)) : Ds D (fun x' t' => S x' t' ∨ (x' = x ∧ t' = t)) (a + 1) u v := by
  rcases h with ⟨_, h2, _⟩ | ⟨h1, x0, t0, h2, h3, h4, h5, h6⟩
  · omega
  · refine Or.inr ⟨by omega, x0, t0, Or.inl h2, h3, h4, h5, fun x' t' s d => s.elim (fun s => h6 x' t' s d) (fun e => ?_)⟩
    rw [e.1, e.2]
    exact hk x0 t0 h2 h4
def cCl (D : Nat → Nat → Bool) (n m x : Nat) : Nat := su (fun t => su (fun x => b2n (D x (t + 1))) n) m + su (fun x => b2n (D x (m + 1))) x
theorem cCl_succ (D : Nat → Nat → Bool) (n m x : Nat) : cCl D n m (x + 1) = cCl D n m x + b2n (D x (m + 1)) := (Nat.add_assoc _ _ _).symm
theorem cCl_next (D : Nat → Nat → Bool) (n m : Nat) : cCl D n (m + 1) 0 = cCl D n m n := rfl
theorem cCl_le (D : Nat → Nat → Bool) {n m x : Nat} (hn : n ≤ 16) (hx : x ≤ 16) (hm : m ≤ 30) : cCl D n m x ≤ 500 := by
  have a1 := su_le (f := fun x => b2n (D x (m + 1))) (B := 1) (fun i => b2n_le _) x
  have a2 : ∀ t, su (fun x => b2n (D x (t + 1))) n ≤ 16 := fun t => by
    have := su_le (f := fun x => b2n (D x (t + 1))) (B := 1) (fun i => b2n_le _) n
    omega
  have a3 := su_le (f := fun t => su (fun x => b2n (D x (t + 1))) n) (B := 16) a2 m
  unfold cCl
  omega
def cMl (D : Nat → Nat → Bool) (N x t : Nat) : Nat := su (fun x => su (fun t => b2n (D x (t + 1))) N) x + su (fun t => b2n (D x (t + 1))) t
theorem cMl_succ (D : Nat → Nat → Bool) (N x t : Nat) : cMl D N x (t + 1) = cMl D N x t + b2n (D x (t + 1)) := (Nat.add_assoc _ _ _).symm
theorem cMl_le (D : Nat → Nat → Bool) {N x t : Nat} (hN : N ≤ 30) (hx : x ≤ 16) (ht : t ≤ 30) : cMl D N x t ≤ 600 := by
  have a1 := su_le (f := fun t => b2n (D x (t + 1))) (B := 1) (fun i => b2n_le _) t
  have a2 : ∀ x, su (fun t => b2n (D x (t + 1))) N ≤ 30 := fun x => by
    have := su_le (f := fun t => b2n (D x (t + 1))) (B := 1) (fun i => b2n_le _) N
    omega
  have a3 := su_le (f := fun x => su (fun t => b2n (D x (t + 1))) N) (B := 30) a2 x
  unfold cMl
  omega
theorem cCM (D : Nat → Nat → Bool) (n N : Nat) : cMl D N n 0 = cCl D n N 0 := by
  show su (fun x => su (fun t => b2n (D x (t + 1))) N) n + 0 = su (fun t => su (fun x => b2n (D x (t + 1))) n) N + 0
  rw [su_comm (fun x t => b2n (D x (t + 1))) N n]
section Dropped
variable {d : Nat} {T : HT} {h : Hp} {Q : Option Value → Hp → Prop} {n : Nat} {c q : List Nat}
theorem s_fitsWithout (hL : Lay T) (eT : h.2.2 = T) (h4 : 4 ≤ n) (h16 : n ≤ 16) (hn : gI h 12 0 = nI n) (vc : VL n c) (vq : VL n q) (hd : gJ h 12 2 = lN (enc c)) (hw : gJ h 12 3 = lN (enc q)) {k : Nat} (hk : k < 4) {s : List Mv} (hG : SG h (20 + 2 * k) s) (hN : sgN n s) {l : List Nat} (hl : l.length = n) (hsm : sm l) {x m : Nat} (hx : x < n) (hm : m < 100) (K : Q (some (.int (b2i (decide ((itS c x s l m).map (fun x => c.getD x 0) = q.take n))))) h) : Call (d + 4) MX10_fitsWithout [.ref 1, .int (nI x), .long (lN (enc l)), .ref (20 + 2 * k), .int (nI m)] h Q := by
  have hc := VL_sm vc
  have ok := itS_ok (c := c) (dr := x) hl hsm hN
  have hI7 := isX7_song hL hk
  have cl : c.length ≤ 16 := by have := vc.1; omega
  refine b_X10_fitsWithout hL eT _ _ _ _ hI7 ?_
  refine upto m (fun i h1 => h1 = h) (fun i h1 => L_X10_fitsWithout_6 d (20 + 2 * k) (nI x) (nI m) (lN (enc (itS c x s l i))) (nI i) h1 Q) ?_ ?_ 0 h (Nat.zero_le _) rfl
  · rintro i h1 hi rfl ih
    refine b_X10_fitsWithout_6 hL eT _ _ _ _ _ hI7 ⟨fun _ => ?_, fun z => absurd (nI_lt hi (by omega)) z⟩
    rw [hd, hn, nI_add]
    exact s_sungFrom (d := d) hL eT hI7 (by omega) h16 (ok i).1 (ok i).2 hc cl hG hN (fun v hv => ⟨fun e => nI_inj (by omega) (by omega) e, fun e => by rw [e]⟩) ⟨_, rfl, eT, ih _ rfl⟩
  · rintro h1 rfl
    refine b_X10_fitsWithout_6 hL eT _ _ _ _ _ hI7 ⟨fun z => absurd z (nI_nlt (Nat.le_refl _) (by omega)), fun _ => ?_⟩
    refine s_seen (d := d + 2) hL eT (isX8_12 hL) hn h16 (ok m).1 (ok m).2 hc cl hd ⟨_, rfl, eT, ?_⟩
    have hs2 : sm ((itS c x s l m).map (fun x => c.getD x 0)) := fun y hy => by
      obtain ⟨z, _, e⟩ := List.mem_map.mp hy
      rw [← e]; exact sm_getD hc z
    rw [lcmp0, hw, ← VL_take vq, encL_iff hs2 (sm_take (VL_sm vq) n) (by rw [List.length_map, (ok m).1, VL_len vq h16]) (by rw [List.length_map, (ok m).1]; exact h16)]
    refine ⟨fun z => ?_, fun z => ?_⟩
    · rw [decide_eq_true z] at K; exact K
    · rw [decide_eq_false z] at K; exact K
theorem s_behind {sg : Nat → List Mv} (hL : Lay T) (eT : h.2.2 = T) (hb : MB h n c sg) (hq : ∀ s, s < 16 → gI h 60 (920 + s) = nI (q.getD s 0)) (vq : VL n q) {k N t dr : Nat} (hk : k < 4) (hN30 : N ≤ 30) (ht1 : 1 ≤ t) (htN : t ≤ N + 1) {x3 : Int32} (hx3 : ∀ v, v < 16 → (nI v = x3 ↔ v = dr))
    (K : ∀ h' : Hp, h'.2 = h.2 → (∀ b j, b ≠ 65 → b ≠ 66 → gI h' b j = gI h b j) → Q (some (.int (b2i (decide ((itS c dr (sg k) (itS c 16 (sg k) (List.range n) (t - 1)) (N + 1 - t)).map (fun x => c.getD x 0) = q.take n))))) h') : Call (d + 4) MX11_isWantedBehind [.ref 59, .int (nI k), .int (nI N), .int x3, .int (nI t)] h Q := by
  obtain ⟨c1, ⟨c2, c3⟩, ⟨c4, c5, c6⟩, c7⟩ := id hb
  have hN := (c7 k hk).2
  have hp0 := fun r => itS_pm (c := c) (dr := 16) (pm_range n) (show 0 < n by omega) hN r
  have hp1 := fun r => itS_pm (c := c) (dr := dr) (hp0 (t - 1)) (show 0 < n by omega) hN r
  refine b_X11_isWantedBehind hL eT _ _ _ _ (s_sitsAtFirst (d := d + 3) hL eT c1 c3 (fun h0 e0 g0 s0 => ⟨rfl, e2T e0 eT, ?_⟩))
  refine upto (N + 1) (fun r h1 => (h1.2 = h.2 ∧ (∀ b j, b ≠ 65 → b ≠ 66 → gI h1 b j = gI h b j) ∧ MS h1 (if r ≤ t then itS c 16 (sg k) (List.range n) (r - 1) else itS c dr (sg k) (itS c 16 (sg k) (List.range n) (t - 1)) (r - t))) ∧ 1 ≤ r) (fun r h1 => L_X11_isWantedBehind_7 d (nI k) (nI N) x3 (nI t) (nI r) h1 Q) ?_ ?_ 1 h0 (by omega) ⟨⟨e0, fun b j u _ => g0 b j u, ?_⟩, Nat.le_refl _⟩
  · rintro r h1 hr ⟨⟨e2, g, s⟩, r1⟩ ih
    refine b_X11_isWantedBehind_7 hL (e2T e2 eT) _ _ _ _ _ ⟨fun z => absurd z (nI_nlt (by omega) (by omega)), fun _ => ⟨fun z => ?_, fun z => ?_⟩⟩
    · have z := (nI_ltI (by omega) (by omega)).mp z
      rw [if_pos (by omega)] at s
      refine s_sings (d := d) (mi := 0) hL (e2T e2 eT) (hb.tr (fun j _ => g _ _ (by decide) (by decide))) (hp0 (r - 1)) s hk (by decide) m1_dr (fun h2 e3 g3 s3 => ⟨rfl, e2T (e3.trans e2) eT, ?_⟩)
      rw [nI_add]
      refine ih h2 ⟨⟨e3.trans e2, fun b j u v => by rw [g3 b j u v, g b j u v], ?_⟩, by omega⟩
      rw [if_pos (by omega)]
      have e1 : singD c 16 (itS c 16 (sg k) (List.range n) (r - 1)) (mrs n 0 (sg k)) = itS c 16 (sg k) (List.range n) (r + 1 - 1) := by
        show itS c 16 (sg k) (List.range n) (r - 1 + 1) = _
        rw [show r - 1 + 1 = r + 1 - 1 by omega]
      rw [← e1]
      exact s3
    · have z : t ≤ r := Nat.le_of_not_lt (fun u => z (nI_lt u (by omega)))
      have s' : MS h1 (itS c dr (sg k) (itS c 16 (sg k) (List.range n) (t - 1)) (r - t)) := by
        by_cases u : r ≤ t
        · rw [if_pos u] at s
          rw [show r - t = 0 by omega]
          rw [show r - 1 = t - 1 by omega] at s
          exact s
        · rw [if_neg u] at s; exact s
      refine s_sings (d := d) (mi := 0) hL (e2T e2 eT) (hb.tr (fun j _ => g _ _ (by decide) (by decide))) (hp1 (r - t)) s' hk (by decide) hx3 (fun h2 e3 g3 s3 => ⟨rfl, e2T (e3.trans e2) eT, ?_⟩)
      rw [nI_add]
      refine ih h2 ⟨⟨e3.trans e2, fun b j u v => by rw [g3 b j u v, g b j u v], ?_⟩, by omega⟩
      rw [if_neg (by omega)]
      have e1 : singD c dr (itS c dr (sg k) (itS c 16 (sg k) (List.range n) (t - 1)) (r - t)) (mrs n 0 (sg k)) = itS c dr (sg k) (itS c 16 (sg k) (List.range n) (t - 1)) (r + 1 - t) := by
        show itS c dr (sg k) (itS c 16 (sg k) (List.range n) (t - 1)) (r - t + 1) = _
        rw [show r - t + 1 = r + 1 - t by omega]
      rw [← e1]
      exact s3
  · rintro h1 ⟨⟨e2, g, s⟩, r1⟩
    have s' : MS h1 (itS c dr (sg k) (itS c 16 (sg k) (List.range n) (t - 1)) (N + 1 - t)) := by
      by_cases u : N + 1 ≤ t
      · rw [if_pos u] at s
        rw [show N + 1 - t = 0 by omega]
        rw [show N + 1 - 1 = t - 1 by omega] at s
        exact s
      · rw [if_neg u] at s; exact s
    refine b_X11_isWantedBehind_7 hL (e2T e2 eT) _ _ _ _ _ ⟨fun _ => ?_, fun z => absurd (nI_lt (by omega) (by omega)) z⟩
    exact s_isWanted (d := d + 3) hL (e2T e2 eT) (by rw [g _ _ (by decide) (by decide)]; exact c1) c3 (fun s hs => by rw [g _ _ (by decide) (by decide)]; exact c4 s hs) c5 (fun s hs => by rw [g _ _ (by decide) (by decide)]; exact hq s hs) (VL_sm vq) (VL_len vq c3) (hp1 _).1 (pm_sm (hp1 _) c3) s' ⟨_, rfl, e2T e2 eT, K h1 e2 g⟩
  · rw [if_pos (by omega)]
    exact s0
theorem s_droppedC (hL : Lay T) (eT : h.2.2 = T) (h4 : 4 ≤ n) (h16 : n ≤ 16) (hn : gI h 12 0 = nI n) (vc : VL n c) (vq : VL n q) (hd : gJ h 12 2 = lN (enc c)) (hw : gJ h 12 3 = lN (enc q)) {k : Nat} (hk : k < 4) {s : List Mv} (hG : SG h (20 + 2 * k) s) (hN : sgN n s) {N : Nat} (hN30 : N ≤ 30) (y : Int32) {D : Nat → Nat → Bool} (hD : ∀ x t, D x t = decide ((itS c x s (itS c 16 s (List.range n) (t - 1)) (N + 1 - t)).map (fun x => c.getD x 0) = q.take n))
    (K : ∀ u v, Ds D (fun x t => x < n ∧ 1 ≤ t ∧ t ≤ N) (cCl D n N 0) u v → Q (some (.int (if (itS c 16 s (List.range n) N).map (fun x => c.getD x 0) = q.take n then r_X10_oneOfThree y (nI (cCl D n N 0) + nI 1) (-1) (nI (N + 1)) else r_X10_oneOfThree y (nI (cCl D n N 0)) u v))) h) : L_X10_dropped_53 d (nI k) (nI N) y (nI 0) (-1) (-1) (lN (enc (List.range n))) (nI 1) h Q := by
  have hc := VL_sm vc
  have cl : c.length ≤ 16 := by have := vc.1; omega
  have ok := itS_ok (c := c) (dr := 16) (List.length_range (n := n)) (pm_sm (pm_range n) h16) hN
  have hI7 := isX7_song hL hk
  have main := upto N (fun m h1 => h1 = h) (fun m h1 => ∀ u v, Ds D (fun x t => x < n ∧ 1 ≤ t ∧ t ≤ m) (cCl D n m 0) u v → L_X10_dropped_53 d (nI k) (nI N) y (nI (cCl D n m 0)) u v (lN (enc (itS c 16 s (List.range n) m))) (nI (m + 1)) h1 Q) ?_ ?_ 0 h (Nat.zero_le _) rfl
  · exact main (-1) (-1) (Or.inl ⟨fun x t a => by omega, rfl, rfl, rfl⟩)
  · rintro m h1 hm rfl ih u v hds
    refine b_X10_dropped_53 hL eT _ _ _ _ _ _ _ _ ⟨fun z => absurd z (nI_nlt (by omega) (by omega)), fun _ => ?_⟩
    have in1 := upto n (fun x h2 => h2 = h1) (fun x h2 => ∀ u v, Ds D (fun x' t => (x' < n ∧ 1 ≤ t ∧ t ≤ m) ∨ (x' < x ∧ t = m + 1)) (cCl D n m x) u v → L_X10_dropped_62 d (nI k) (nI N) y (nI (cCl D n m x)) u v (lN (enc (itS c 16 s (List.range n) m))) (nI (m + 1)) (nI x) h2 Q) ?_ ?_ 0 h1 (Nat.zero_le _) rfl
    · exact in1 u v (hds.congr (fun x t => ⟨fun a => Or.inl a, fun a => a.elim id (fun b => by omega)⟩))
    · rintro x h2 hx rfl ih2 u v hds
      have hbx := cCl_le D (n := n) (m := m) (x := x) h16 (by omega) (by omega)
      refine b_X10_dropped_62 hL eT _ _ _ _ _ _ _ _ _ ?_
      rw [hn, nI_add, nI_add]
      refine ⟨fun _ => ⟨k, rfl, hk, ?_⟩, fun z => absurd (nI_lt hx (by omega)) z⟩
      rw [show nI N - nI (m + 1) + nI 1 = nI (N + 1 - (m + 1)) by rw [pk_sub (by omega), nI_add, show N - (m + 1) + 1 = N + 1 - (m + 1) by omega]]
      have eS : ∀ x' t, (((x' < n ∧ 1 ≤ t ∧ t ≤ m) ∨ (x' < x ∧ t = m + 1)) ∨ (x' = x ∧ t = m + 1)) ↔ ((x' < n ∧ 1 ≤ t ∧ t ≤ m) ∨ (x' < x + 1 ∧ t = m + 1)) := fun x' t => by omega
      have ih2 := ih2 h2 rfl
      rw [cCl_succ] at ih2
      generalize cCl D n m x = a at *
      refine s_fitsWithout (d := d) hL eT h4 h16 hn vc vq hd hw hk hG hN (ok m).1 (ok m).2 hx (by omega) ⟨_, rfl, eT, fun z => ?_, fun z => ?_⟩
      · have zd : D x (m + 1) = true := by rw [hD]; exact z
        rw [zd] at ih2
        refine ⟨fun a0 => ?_, fun a0 => ⟨fun lt => ?_, fun nlt => ?_⟩⟩
        · have a0 : a = 0 := (nI_eq0 (by omega)).mp a0
          exact ih2 _ _ ((Ds_new hds zd (Or.inl a0) (fun x0 t0 a => by omega)).congr eS)
        · have a0 : a ≠ 0 := fun e => a0 (by rw [e]; rfl)
          obtain ⟨x0, t0, s0, _, eu, _⟩ := (hds.resolve_left (fun e => a0 e.2.1)).2
          rw [eu] at lt
          have lt := (nI_ltI (by omega) (by omega)).mp lt
          exact ih2 _ _ ((Ds_new hds zd (Or.inr ⟨x0, eu, lt, by omega⟩) (fun x0 t0 a => by omega)).congr eS)
        · have a0 : a ≠ 0 := fun e => a0 (by rw [e]; rfl)
          refine ih2 _ _ ((Ds_old hds (by omega) (fun x0 t0 s0 eu => ?_)).congr eS)
          rw [eu] at nlt
          have : x0 ≤ x := Nat.le_of_not_lt (fun e => nlt (nI_lt e (by omega)))
          omega
      · have zd : D x (m + 1) = false := by rw [hD]; exact Bool.eq_false_iff.mpr z
        rw [zd] at ih2
        exact ih2 _ _ ((Ds_no hds zd).congr eS)
    · rintro h2 rfl u v hds
      refine b_X10_dropped_62 hL eT _ _ _ _ _ _ _ _ _ ?_
      rw [hn, hd, nI_add (m + 1) 1]
      refine ⟨fun z => absurd z (nI_nlt (Nat.le_refl _) (by omega)), fun _ => ⟨k, rfl, hk, ?_⟩⟩
      refine s_sungFrom (d := d + 1) hL eT hI7 (by omega) h16 (ok m).1 (ok m).2 hc cl hG hN m1_dr ⟨_, rfl, eT, ih h2 rfl u v ?_⟩
      rw [cCl_next]
      exact hds.congr (fun x t => by omega)
  · rintro h1 rfl u v hds
    refine b_X10_dropped_53 hL eT _ _ _ _ _ _ _ _ ⟨fun _ => ?_, fun z => absurd (nI_lt (by omega) (by omega)) z⟩
    refine s_seen (d := d + 3) hL eT (isX8_12 hL) hn h16 (ok N).1 (ok N).2 hc cl hd ⟨_, rfl, eT, ?_⟩
    have hs2 : sm ((itS c 16 s (List.range n) N).map (fun x => c.getD x 0)) := fun y hy => by
      obtain ⟨z, _, e⟩ := List.mem_map.mp hy
      rw [← e]; exact sm_getD hc z
    have K := K u v hds
    rw [lcmp0, hw, ← VL_take vq, encL_iff hs2 (sm_take (VL_sm vq) n) (by rw [List.length_map, (ok N).1, VL_len vq h16]) (by rw [List.length_map, (ok N).1]; exact h16), nI_add N 1]
    refine ⟨fun z => ?_, fun z => ?_⟩
    · rw [if_pos z] at K; exact K
    · rw [if_neg z] at K; exact K
theorem s_droppedM {sg : Nat → List Mv} (hL : Lay T) (eT : h.2.2 = T) (hb : MB h n c sg) (hq : ∀ s, s < 16 → gI h 60 (920 + s) = nI (q.getD s 0)) (vq : VL n q) {k N : Nat} (hk : k < 4) (hN1 : 1 ≤ N) (hN30 : N ≤ 30) {y : Int32} (hy : r_X11_isIn y (nI 0) (nI 2) = true) {D : Nat → Nat → Bool} (hD : ∀ x t, D x t = decide ((itS c x (sg k) (itS c 16 (sg k) (List.range n) (t - 1)) (N + 1 - t)).map (fun x => c.getD x 0) = q.take n))
    (K : ∀ (h' : Hp) u v, h'.2 = h.2 → (∀ b j, b ≠ 65 → b ≠ 66 → gI h' b j = gI h b j) → Ds D (fun x t => x < n ∧ 1 ≤ t ∧ t ≤ N) (cMl D N n 0) u v → Q (some (.int (if (itS c 16 (sg k) (List.range n) N).map (fun x => c.getD x 0) = q.take n then r_X10_oneOfThree y (nI (cMl D N n 0) + nI 1) (-1) (nI (N + 1)) else r_X10_oneOfThree y (nI (cMl D N n 0)) u v))) h') : Call (d + 5) MX11_dropped [.ref 59, .int (nI k), .int (nI N), .int y] h Q := by
  obtain ⟨c1, ⟨c2, c3⟩, ⟨c4, c5, c6⟩, c7⟩ := id hb
  refine b_X11_dropped hL eT _ _ _ ⟨fun _ => ⟨fun _ => ⟨fun _ => ?_, fun z => absurd hy z⟩, fun z => absurd ((isIn_nat (by omega) (by decide) (by decide)).mpr ⟨hN1, hN30⟩) z⟩, fun z => absurd (isSongM_iff.mpr ⟨k, hk, rfl⟩) z⟩
  rw [nI_add N 1, nI_add 0 1]
  -- the state of the loops: nobody dropped fits (b), or not
  have loops : ∀ (b : Bool), (b = true ↔ (itS c 16 (sg k) (List.range n) N).map (fun x => c.getD x 0) = q.take n) → ∀ h0 : Hp, h0.2 = h.2 → (∀ b j, b ≠ 65 → b ≠ 66 → gI h0 b j = gI h b j) → L_X11_dropped_61 d (nI k) (nI N) y (nI (b2n b)) (-1) (if b = true then nI (N + 1) else -1) (nI 0) h0 Q := by
    intro b hbb h0 e0 g0
    have main := upto n (fun x h1 => h1.2 = h.2 ∧ (∀ b j, b ≠ 65 → b ≠ 66 → gI h1 b j = gI h b j)) (fun x h1 => ∀ u v, Ds D (fun x' t => x' < x ∧ 1 ≤ t ∧ t ≤ N) (cMl D N x 0) u v → L_X11_dropped_61 d (nI k) (nI N) y (nI (b2n b + cMl D N x 0)) (if b = true then -1 else u) (if b = true then nI (N + 1) else v) (nI x) h1 Q) ?_ ?_ 0 h0 (Nat.zero_le _) ⟨e0, g0⟩
    · have := main (-1) (-1) (Or.inl ⟨fun x t a => by omega, rfl, rfl, rfl⟩)
      rw [show (if b = true then (-1 : Int32) else -1) = -1 by split <;> rfl] at this
      exact this
    · rintro x h1 hx ⟨e2, g⟩ ih u v hds
      refine b_X11_dropped_61 hL (e2T e2 eT) _ _ _ _ _ _ _ ?_
      rw [g 60 0 (by decide) (by decide), c1]
      refine ⟨fun _ => ?_, fun z => absurd (nI_lt hx (by omega)) z⟩
      have in1 := upto N (fun t h2 => h2.2 = h.2 ∧ (∀ b j, b ≠ 65 → b ≠ 66 → gI h2 b j = gI h b j)) (fun t h2 => ∀ u v, Ds D (fun x' t' => (x' < x ∧ 1 ≤ t' ∧ t' ≤ N) ∨ (x' = x ∧ 1 ≤ t' ∧ t' ≤ t)) (cMl D N x t) u v → L_X11_dropped_75 d (nI k) (nI N) y (nI (b2n b + cMl D N x t)) (if b = true then -1 else u) (if b = true then nI (N + 1) else v) (nI x) (nI (t + 1)) h2 Q) ?_ ?_ 0 h1 (Nat.zero_le _) ⟨e2, g⟩
      · exact in1 u v (hds.congr (fun x t => by omega))
      · rintro t h2 ht ⟨e3, g3⟩ ih2 u v hds
        have hbx := cMl_le D (N := N) (x := x) (t := t) hN30 (by omega) (by omega)
        have hb1 := b2n_le b
        refine b_X11_dropped_75 hL (e2T e3 eT) _ _ _ _ _ _ _ _ ⟨fun z => absurd z (nI_nlt (by omega) (by omega)), fun _ => ?_⟩
        have eS : ∀ x' t', (((x' < x ∧ 1 ≤ t' ∧ t' ≤ N) ∨ (x' = x ∧ 1 ≤ t' ∧ t' ≤ t)) ∨ (x' = x ∧ t' = t + 1)) ↔ ((x' < x ∧ 1 ≤ t' ∧ t' ≤ N) ∨ (x' = x ∧ 1 ≤ t' ∧ t' ≤ t + 1)) := fun x' t' => by omega
        refine s_behind (d := d) hL (e2T e3 eT) (hb.tr (fun j _ => g3 _ _ (by decide) (by decide))) (fun s hs => by rw [g3 _ _ (by decide) (by decide)]; exact hq s hs) vq hk hN30 (by omega) (by omega) (fun v hv => ⟨fun e => nI_inj (by omega) (by omega) e, fun e => by rw [e]⟩) (fun h4 e4 g4 => ⟨_, rfl, e2T (e4.trans e3) eT, fun z => ?_, fun z => ?_⟩)
        · have zd : D x (t + 1) = true := by rw [hD]; exact z
          have ih2 := ih2 h4 ⟨e4.trans e3, fun b j u v => by rw [g4 b j u v, g3 b j u v]⟩
          rw [cMl_succ, zd, ← Nat.add_assoc] at ih2
          have ih2 : ∀ u v, Ds D (fun x' t' => (x' < x ∧ 1 ≤ t' ∧ t' ≤ N) ∨ (x' = x ∧ 1 ≤ t' ∧ t' ≤ t + 1)) (cMl D N x t + 1) u v → L_X11_dropped_75 d (nI k) (nI N) y (nI (b2n b + cMl D N x t + 1)) (if b = true then -1 else u) (if b = true then nI (N + 1) else v) (nI x) (nI (t + 1 + 1)) h4 Q := ih2
          generalize cMl D N x t = a at *
          rw [nI_add, nI_add]
          have old : ¬ b2n b + a = 0 → L_X11_dropped_75 d (nI k) (nI N) y (nI (b2n b + a + 1)) (if b = true then -1 else u) (if b = true then nI (N + 1) else v) (nI x) (nI (t + 1 + 1)) h4 Q := by
            intro a0
            by_cases ha : a = 0
            · have hbt : b = true := by
                cases b with
                | true => rfl
                | false => exact absurd (show b2n false + a = 0 by rw [ha]; rfl) a0
              have := ih2 (nI x) (nI (t + 1)) ((Ds_new hds zd (Or.inl ha) (fun x0 t0 a => by omega)).congr eS)
              rw [if_pos hbt, if_pos hbt] at this ⊢
              exact this
            · exact ih2 _ _ ((Ds_old hds (by omega) (fun x0 t0 s0 eu => by omega)).congr eS)
          refine ⟨fun a0 => ⟨fun _ => ?_, fun w => absurd a0 w⟩, fun a0 => ⟨fun w => absurd w a0, fun _ => old (fun e => a0 (by rw [e]; rfl))⟩⟩
          have a0 : b2n b + a = 0 := (nI_eq0 (by omega)).mp a0
          have hbf : ¬ b = true := fun e => by rw [e] at a0; exact absurd a0 (by show ¬ 1 + a = 0; omega)
          have := ih2 (nI x) (nI (t + 1)) ((Ds_new hds zd (Or.inl (by omega)) (fun x0 t0 a => by omega)).congr eS)
          rw [if_neg hbf, if_neg hbf] at this
          exact this
        · have zd : D x (t + 1) = false := by rw [hD]; exact Bool.eq_false_iff.mpr z
          have ih2 := ih2 h4 ⟨e4.trans e3, fun b j u v => by rw [g4 b j u v, g3 b j u v]⟩
          rw [cMl_succ, zd] at ih2
          rw [nI_add]
          exact ih2 _ _ ((Ds_no hds zd).congr eS)
      · rintro h2 ⟨e3, g3⟩ u v hds
        refine b_X11_dropped_75 hL (e2T e3 eT) _ _ _ _ _ _ _ _ ⟨fun _ => ?_, fun z => absurd (nI_lt (by omega) (by omega)) z⟩
        rw [nI_add]
        exact ih h2 ⟨e3, g3⟩ u v (hds.congr (fun x t => by omega))
    · rintro h1 ⟨e2, g⟩ u v hds
      have K := K h1 u v e2 g hds
      refine b_X11_dropped_61 hL (e2T e2 eT) _ _ _ _ _ _ _ ?_
      rw [g 60 0 (by decide) (by decide), c1]
      refine ⟨fun z => absurd z (nI_nlt (Nat.le_refl _) (by omega)), fun _ => ?_⟩
      unfold r_X10_oneOfThree at K
      by_cases hbt : b = true
      · rw [if_pos (hbb.mp hbt)] at K
        rw [if_pos hbt, if_pos hbt, hbt, show b2n true + cMl D N n 0 = cMl D N n 0 + 1 from Nat.add_comm 1 _, ← nI_add]
        refine ⟨fun z => ?_, fun z => ⟨fun z2 => ?_, fun z2 => ?_⟩⟩
        · rw [if_pos z] at K; exact K
        · rw [if_neg z, if_pos z2] at K; exact K
        · rw [if_neg z, if_neg z2] at K; exact K
      · rw [if_neg (fun e => hbt (hbb.mpr e))] at K
        have hbf : b = false := Bool.eq_false_iff.mpr hbt
        rw [if_neg hbt, if_neg hbt, hbf, show b2n false + cMl D N n 0 = cMl D N n 0 from Nat.zero_add _]
        refine ⟨fun z => ?_, fun z => ⟨fun z2 => ?_, fun z2 => ?_⟩⟩
        · rw [if_pos z] at K; exact K
        · rw [if_neg z, if_pos z2] at K; exact K
        · rw [if_neg z, if_neg z2] at K; exact K
  refine s_behind (d := d) (dr := 16) hL eT hb hq vq hk hN30 (by omega) (Nat.le_refl _) m1_dr (fun h4 e4 g4 => ⟨_, rfl, e2T e4 eT, fun z => ?_, fun z => ?_⟩)
  · rw [Nat.sub_self, show N + 1 - 1 = N from rfl] at z
    have z2 : (itS c 16 (sg k) (List.range n) N).map (fun x => c.getD x 0) = q.take n := of_decide_eq_true z
    have := loops true ⟨fun _ => z2, fun _ => rfl⟩ h4 e4 g4
    rw [if_pos rfl] at this
    exact this
  · rw [Nat.sub_self, show N + 1 - 1 = N from rfl] at z
    have z2 : ¬ (itS c 16 (sg k) (List.range n) N).map (fun x => c.getD x 0) = q.take n := fun e => z (decide_eq_true e)
    have := loops false ⟨fun e => absurd e (by decide), fun e => absurd e z2⟩ h4 e4 g4
    rw [if_neg (by decide)] at this
    exact this
theorem op_dropped {L : Nat} {xs : Nat → Int32} (I : Inv L xs h) (x1 x2 x3 : Int32) : Op MX10_dropped MX11_dropped [.int x1, .int x2, .int x3] h (Inv L xs) := by
  obtain ⟨R, n, sl, c, q, nm, sg, w, v, rc, rm, hs⟩ := id I
  have hL := R.1
  have hb := RM.mb v rm
  obtain ⟨⟨v1, v2⟩, v3, v4, v5, v6, v7, v8⟩ := id v
  have iM := isIn_iff (x := x3) (m := 2) (by decide)
  have no : ∀ r : Int32, r = -1 → ¬ (r_X11_isSong x1 = true ∧ r_X11_isIn x2 (nI 1) (nI 30) = true ∧ r_X11_isIn x3 (nI 0) (nI 2) = true) → Call 39 MX11_dropped [.ref 59, .int x1, .int x2, .int x3] h (fun v' h2 => v' = some (.int r) ∧ Inv L xs h2) := by
    intro r er z
    subst er
    refine b_X11_dropped (d := 34) hL rfl _ _ _ ⟨fun k1 => ⟨fun k2 => ⟨fun k3 => absurd ⟨k1, k2, k3⟩ z, fun _ => ⟨rfl, I⟩⟩, fun _ => ⟨rfl, I⟩⟩, fun _ => ⟨rfl, I⟩⟩
  have neg1 : ∀ {a b : Nat} {x : Int32}, x < nI a → a < 2 ^ 31 → b < 2 ^ 31 → ¬ r_X11_isIn x (nI a) (nI b) = true := fun {a b x} h1 _ _ k => by
    unfold r_X11_isIn at k
    rw [if_pos h1] at k
    exact absurd k (by decide)
  have neg2 : ∀ {a b : Nat} {x : Int32}, nI b < x → ¬ r_X11_isIn x (nI a) (nI b) = true := fun {a b x} h1 k => by
    unfold r_X11_isIn at k
    by_cases u : x < nI a
    · rw [if_pos u] at k; exact absurd k (by decide)
    · rw [if_neg u, if_pos h1] at k; exact absurd k (by decide)
  refine b_X10_dropped (d := 34) hL rfl _ _ _ ⟨fun z => ⟨fun z1 => ⟨_, rfl, no _ rfl (fun k => neg1 z1 (by decide) (by decide) k.2.1)⟩, fun z1 => ⟨fun z2 => ⟨_, rfl, no _ rfl (fun k => neg2 z2 k.2.1)⟩, fun z2 => ⟨fun z3 => ⟨_, rfl, no _ rfl (fun k => neg1 (a := 0) (by rw [nI_0]; exact z3) (by decide) (by decide) k.2.2)⟩, fun z3 => ⟨fun z4 => ⟨_, rfl, no _ rfl (fun k => neg2 z4 k.2.2)⟩, fun z4 => ?_⟩⟩⟩⟩, fun z => ⟨_, rfl, no _ rfl (fun k => z (isSongC_iff.mpr (isSongM_iff.mp k.1)))⟩⟩
  obtain ⟨k, hk, e⟩ := isSongC_iff.mp z
  subst e
  have x0 : ¬ x2 < 0 := fun u => z1 (by
    rw [fa_lt] at u ⊢
    have : (0 : Int32).toInt = 0 := by decide
    rw [nI_toInt (by decide)]
    omega)
  obtain ⟨N, hNb, e⟩ := nI_of x0
  subst e
  have N1 : 1 ≤ N := Nat.le_of_not_lt (fun u => z1 (nI_lt u (by decide)))
  have N30 : N ≤ 30 := Nat.le_of_not_lt (fun u => z2 (nI_lt u hNb))
  have hy : r_X11_isIn x3 (nI 0) (nI 2) = true := by
    obtain ⟨t, ht, e⟩ := nI_of z3
    subst e
    exact iM.mpr ⟨t, Nat.le_of_not_lt (fun u => z4 (nI_lt u ht)), rfl⟩
  rw [rc.1, home_enc v2]
  refine s_droppedC hL rfl v1 v2 rc.1 v4 v5 rc.2.2.1 rc.2.2.2.1 hk (rc.2.2.2.2.2.1 k hk) (v7 k hk) N30 x3 (D := fun x t => decide ((itS c x (sg k) (itS c 16 (sg k) (List.range n) (t - 1)) (N + 1 - t)).map (fun x => c.getD x 0) = q.take n)) (fun _ _ => rfl) (fun u v hds => ⟨_, rfl, ?_⟩)
  refine s_droppedM (d := 34) hL rfl hb rm.2.2.2.1 v5 hk N1 N30 hy (D := fun x t => decide ((itS c x (sg k) (itS c 16 (sg k) (List.range n) (t - 1)) (N + 1 - t)).map (fun x => c.getD x 0) = q.take n)) (fun _ _ => rfl) (fun h' u' v' e2 g2 hds' => ⟨?_, I.scr (Scr.of e2 g2)⟩)
  rw [cCM] at hds' ⊢
  obtain ⟨e1, e3⟩ := Ds_uniq hds hds'
  rw [e1, e3]
end Dropped
