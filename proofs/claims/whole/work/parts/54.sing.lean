-- singings that are remembered
theorem gI_copy {a x : Nat} (hd : a + 3 ≤ x ∨ x + 3 ≤ a) (h : Hp) (b j : Nat) : gI (w_X1_copy a x h) b j = if b = a + 2 ∧ j < 256 then gI h (x + 2) j else if b = a + 1 ∧ j < 16 then gI h (x + 1) j else if b = a ∧ j = 3 then gI h x 3 else if b = a ∧ j = 2 then gI h x 2 else if b = a ∧ j = 1 then gI h x 1 else gI h b j := by
  have base : ∀ b j, gI (sI (sI (sI (sJ h a 0 (gJ h x 0)) a 1 (gI (sJ h a 0 (gJ h x 0)) x 1)) a 2 (gI (sI (sJ h a 0 (gJ h x 0)) a 1 (gI (sJ h a 0 (gJ h x 0)) x 1)) x 2)) a 3 (gI (sI (sI (sJ h a 0 (gJ h x 0)) a 1 (gI (sJ h a 0 (gJ h x 0)) x 1)) a 2 (gI (sI (sJ h a 0 (gJ h x 0)) a 1 (gI (sJ h a 0 (gJ h x 0)) x 1)) x 2)) x 3)) b j = if b = a ∧ j = 3 then gI h x 3 else if b = a ∧ j = 2 then gI h x 2 else if b = a ∧ j = 1 then gI h x 1 else gI h b j := by
    intro b j
    have e1 : gI (sJ h a 0 (gJ h x 0)) x 1 = gI h x 1 := rfl
    have e2 : ∀ v, gI (sI (sJ h a 0 (gJ h x 0)) a 1 v) x 2 = gI h x 2 := fun v => by rw [gI_sI_ne (show x ≠ a by omega)]; rfl
    have e3 : ∀ v v', gI (sI (sI (sJ h a 0 (gJ h x 0)) a 1 v) a 2 v') x 3 = gI h x 3 := fun v v' => by rw [gI_sI_ne (show x ≠ a by omega), gI_sI_ne (show x ≠ a by omega)]; rfl
    rw [e3, e2, e1]
    rfl
  unfold w_X1_copy
  rw [gI_cpI, gI_cpI, gI_cpI, base, base, base, base]
  by_cases q : b = a + 2 ∧ j < 256
  · rw [if_pos ⟨q.1, by omega, by omega⟩, if_pos q, if_neg (by omega), if_neg (by omega), if_neg (by omega), if_neg (by omega)]
    rw [show 0 + (j - 0) = j by omega]
  · rw [if_neg (fun k => q ⟨k.1, by omega⟩), if_neg q]
    by_cases z : b = a + 1 ∧ j < 16
    · rw [if_pos ⟨z.1, by omega, by omega⟩, if_pos z, if_neg (by omega), if_neg (by omega), if_neg (by omega)]
      rw [show 0 + (j - 0) = j by omega]
    · rw [if_neg (fun k => z ⟨k.1, by omega⟩), if_neg z]
theorem gJ_copy (a x : Nat) (h : Hp) (b j : Nat) : gJ (w_X1_copy a x h) b j = if b = a ∧ j = 0 then gJ h x 0 else gJ h b j := rfl
theorem t_copy (a x : Nat) (h : Hp) : (w_X1_copy a x h).2.2 = h.2.2 := rfl
theorem CC_copy {a x : Nat} (hd : a + 3 ≤ x ∨ x + 3 ≤ a) {h : Hp} {w : Cd} (k : CC h x w) : CC (w_X1_copy a x h) a w := by
  obtain ⟨k1, k2, k3, k4, k5⟩ := k
  refine ⟨by rw [gJ_copy, if_pos ⟨rfl, rfl⟩]; exact k1, ?_, ?_, fun s hs => ?_, fun j hj => ?_⟩
  · rw [gI_copy hd, if_neg (by omega), if_neg (by omega), if_neg (by omega), if_neg (by omega), if_pos ⟨rfl, rfl⟩]; exact k2
  · rw [gI_copy hd, if_neg (by omega), if_neg (by omega), if_neg (by omega), if_pos ⟨rfl, rfl⟩]; exact k3
  · rw [gI_copy hd, if_neg (by omega), if_pos ⟨rfl, hs⟩]; exact k4 s hs
  · rw [gI_copy hd, if_pos ⟨rfl, hj⟩]; exact k5 j hj
def kU (k : Nat) : Nat := if k = 6 then 6 else k + 1
def uU (k : Nat) (us : Nat → Cd) (w : Cd) : Nat → Cd := fun j => if k = 6 then (if j = 5 then w else us (j + 1)) else (if j = k then w else us j)
theorem HV.push {n k : Nat} {w w' : Cd} {us : Nat → Cd} (v : HV n w k us) (k6 : k ≤ 6) (vw : VW n w) (pre : w.2.2.2.2.2 <+: w'.2.2.2.2.2) : HV n w' (kU k) (uU k us w) := by
  obtain ⟨v1, v2, v3⟩ := v
  unfold kU uU
  by_cases q : k = 6
  · rw [if_pos q]
    refine ⟨fun j hj => ?_, fun i j hij hj => ?_, fun j hj => ?_⟩
    · dsimp only
      rw [if_pos q]
      split
      · exact vw
      · exact v1 _ (by omega)
    · dsimp only
      rw [if_pos q, if_pos q]
      by_cases z : j = 5
      · rw [if_pos z]
        by_cases y : i = 5
        · rw [if_pos y]; exact List.prefix_refl _
        · rw [if_neg y]; exact v3 _ (by omega)
      · rw [if_neg z, if_neg (show ¬ i = 5 by omega)]; exact v2 _ _ (by omega) (by omega)
    · dsimp only
      rw [if_pos q]
      by_cases z : j = 5
      · rw [if_pos z]; exact pre
      · rw [if_neg z]; exact (v3 _ (by omega)).trans pre
  · rw [if_neg q]
    refine ⟨fun j hj => ?_, fun i j hij hj => ?_, fun j hj => ?_⟩
    · dsimp only
      rw [if_neg q]
      by_cases z : j = k
      · rw [if_pos z]; exact vw
      · rw [if_neg z]; exact v1 _ (by omega)
    · dsimp only
      rw [if_neg q, if_neg q]
      by_cases z : j = k
      · rw [if_pos z]
        by_cases y : i = k
        · rw [if_pos y]; exact List.prefix_refl _
        · rw [if_neg y]; exact v3 _ (by omega)
      · rw [if_neg z, if_neg (show ¬ i = k by omega)]; exact v2 _ _ (by omega) (by omega)
    · dsimp only
      rw [if_neg q]
      by_cases z : j = k
      · rw [if_pos z]; exact pre
      · rw [if_neg z]; exact (v3 _ (by omega)).trans pre
-- what a true singing keeps
theorem addR_ok {c : List Nat} {x : Nat} {R : List (Nat × Nat)} (hx : x < 16) (hc : sm c) (l : R.length ≤ 300) (al : ∀ i, i < R.length → (gQ R i).1 < 16 ∧ (gQ R i).2 < 16) : R <+: addR c x R ∧ (addR c x R).length ≤ 300 ∧ ∀ i, i < (addR c x R).length → (gQ (addR c x R) i).1 < 16 ∧ (gQ (addR c x R) i).2 < 16 := by
  unfold addR
  by_cases q : R.length < 300
  · rw [if_pos q]
    refine ⟨List.prefix_append _ _, by rw [List.length_append, List.length_singleton]; omega, fun i hi => ?_⟩
    rw [gQ_app]
    by_cases z : i < R.length
    · rw [if_pos z]; exact al i z
    · rw [if_neg z]
      by_cases y : i = R.length
      · rw [if_pos y]; exact ⟨hx, sm_getD hc x⟩
      · rw [if_neg y]; exact ⟨by decide, by decide⟩
  · rw [if_neg q]
    exact ⟨List.prefix_refl _, l, al⟩
theorem VW_tm1 {n : Nat} {c : List Nat} {w : Cd} {m : Mv} (v : VW n w) (h0 : 0 < n) (h16 : n ≤ 16) (hc : sm c) (hm : mvN n m) : VW n (tm1 c w m).1 ∧ w.2.2.2.2.2 <+: (tm1 c w m).1.2.2.2.2.2 := by
  have hp' := pm_tm1 (c := c) v.1 h0 hm
  obtain ⟨v1, v2, v3, v4⟩ := v
  have hl := v1.1
  unfold tm1 at hp' ⊢
  by_cases q : m.1 = 2
  · rw [if_pos q] at hp' ⊢
    exact ⟨⟨hp', v2, v3, v4⟩, List.prefix_refl _⟩
  · rw [if_neg q] at hp' ⊢
    have hab := hm.2.2.1 (by have := hm.1; omega)
    by_cases z : fits1 w.2.2.2.1 c m = true
    · rw [if_pos z] at hp' ⊢
      obtain ⟨a1, a2, a3⟩ := addR_ok (x := w.2.2.2.1.getD m.2.1 0) (sm_getD (pm_sm v1 h16) _) hc v2 v3
      refine ⟨⟨hp', a2, a3, fun x hx => ?_⟩, a1⟩
      show ovr w.2.2.2.1 m w.2.2.2.2.1 (16 * x + x) = 0
      unfold ovr
      rw [if_neg, v4 x hx]
      rintro ⟨k1, k2⟩
      rw [show (16 * x + x) / 16 = x by omega] at k1
      rw [show (16 * x + x) % 16 = x by omega] at k2
      rcases (passB_iff (by omega) (by omega) (by omega)).mp k2 with ⟨_, t, ht, e⟩ | ⟨_, ne, e⟩
      · have := v1.2.1 t m.2.1 (by omega) (by omega) (by rw [e, k1])
        omega
      · have := v1.2.1 m.2.2.1 m.2.1 (by omega) (by omega) (by rw [← e, k1])
        omega
    · rw [if_neg z] at hp' ⊢
      exact ⟨⟨v1, v2, v3, v4⟩, List.prefix_refl _⟩
theorem VW_tr1 {n sl : Nat} {c : List Nat} {p : Cd × Nat} {m : Mv} (v : VW n p.1) (h0 : 0 < n) (h16 : n ≤ 16) (hc : sm c) (hm : mvN n m) : VW n (tr1 sl c p m).1 ∧ p.1.2.2.2.2.2 <+: (tr1 sl c p m).1.2.2.2.2.2 := by
  unfold tr1
  generalize drw p.1.1 = t
  by_cases q : m.1 ≠ 2 ∧ 0 < sl
  · rw [if_pos q]
    by_cases z : slp t < nI sl
    · rw [if_pos z]; exact ⟨v, List.prefix_refl _⟩
    · rw [if_neg z]
      have b := VW_tm1 (c := c) (w := (t, p.1.2)) (m := m) v h0 h16 hc hm
      generalize tm1 c (t, p.1.2) m = y at b
      exact b
  · rw [if_neg q]
    have b := VW_tm1 (c := c) (w := p.1) (m := m) v h0 h16 hc hm
    generalize tm1 c p.1 m = y at b
    exact b
theorem VW_trS {n sl : Nat} {c : List Nat} {w : Cd} {s : List Mv} (v : VW n w) (h0 : 0 < n) (h16 : n ≤ 16) (hc : sm c) (hs : sgN n s) : ∀ i, i ≤ s.length → VW n (trS sl c w (s.take i)).1 ∧ w.2.2.2.2.2 <+: (trS sl c w (s.take i)).1.2.2.2.2.2
  | 0, _ => ⟨v, List.prefix_refl _⟩
  | i + 1, h => by
    obtain ⟨a, b⟩ := VW_trS (sl := sl) v h0 h16 hc hs i (by omega)
    rw [trS_succ (by omega)]
    obtain ⟨a2, b2⟩ := VW_tr1 (sl := sl) a h0 h16 hc (hs _ (gM_mem (show i < s.length by omega)))
    exact ⟨a2, b.trans b2⟩
abbrev Sg : Type := Nat × (Nat → Cd) × Cd × Int32
noncomputable def sng (sl : Nat) (c : List Nat) (s : List Mv) (p : Sg) : Nat → Sg
  | 0 => p
  | i + 1 => (kU (sng sl c s p i).1, uU (sng sl c s p i).1 (sng sl c s p i).2.1 (sng sl c s p i).2.2.1, (trS sl c (sng sl c s p i).2.2.1 s).1, (sng sl c s p i).2.2.2 + nI (trS sl c (sng sl c s p i).2.2.1 s).2)
theorem sng_ok {n sl : Nat} {c : List Nat} {s : List Mv} {p : Sg} (h0 : 0 < n) (h16 : n ≤ 16) (hc : sm c) (hs : sgN n s) (k6 : p.1 ≤ 6) (vw : VW n p.2.2.1) (hv : HV n p.2.2.1 p.1 p.2.1) : ∀ i, (sng sl c s p i).1 ≤ 6 ∧ VW n (sng sl c s p i).2.2.1 ∧ HV n (sng sl c s p i).2.2.1 (sng sl c s p i).1 (sng sl c s p i).2.1
  | 0 => ⟨k6, vw, hv⟩
  | i + 1 => by
    obtain ⟨a1, a2, a3⟩ := sng_ok (sl := sl) h0 h16 hc hs k6 vw hv i
    have b := VW_trS (sl := sl) (c := c) (s := s) a2 h0 h16 hc hs s.length (Nat.le_refl _)
    rw [List.take_length] at b
    refine ⟨?_, b.1, a3.push a1 a2 b.2⟩
    show kU (sng sl c s p i).1 ≤ 6
    unfold kU
    split <;> omega
section Sing
variable {d : Nat} {T : HT} {h : Hp} {Q : Option Value → Hp → Prop} {n : Nat}
def frC (h h' : Hp) : Prop := (∀ b j, (b = 15 → j ≠ 1 ∧ j ≠ 2 ∧ j ≠ 3) → ¬ (16 ≤ b ∧ b ≤ 18) → ¬ (28 ≤ b ∧ b < 48) → gI h' b j = gI h b j) ∧ ∀ b j, b ≠ 15 → ¬ (28 ≤ b ∧ b < 48) → gJ h' b j = gJ h b j
theorem frC.trans {h h1 h2 : Hp} (a : frC h h1) (b : frC h1 h2) : frC h h2 := ⟨fun x j u v w => by rw [b.1 x j u v w, a.1 x j u v w], fun x j u v => by rw [b.2 x j u v, a.2 x j u v]⟩
theorem s_remember (hL : Lay T) (eT : h.2.2 = T) {k nx : Nat} {us : Nat → Cd} (hc : HC h k nx us) {w : Cd} (hC : CC h 15 w) (hR : gI h 15 3 = nI w.2.2.2.2.2.length)
    (K : ∀ h' : Hp, h'.2.2 = h.2.2 → (∀ b j, ¬ (28 ≤ b ∧ b < 48) → gI h' b j = gI h b j) → (∀ b j, ¬ (28 ≤ b ∧ b < 48) → gJ h' b j = gJ h b j) → (∃ nx', HC h' (kU k) nx' (uU k us w)) → Q none h') : Call (d + 1) MX2_remember [.ref 28, .ref 15] h Q := by
  obtain ⟨k1, k2, k3, k4, k5⟩ := hc
  have dj : 30 + 3 * nx + 3 ≤ 15 ∨ 15 + 3 ≤ 30 + 3 * nx := by omega
  refine b_X2_remember hL eT _ (isX1_15 hL) ⟨nx, k4, k2, ?_⟩
  have e1 : gI (w_X1_copy (30 + 3 * nx) 15 h) 28 1 = nI nx := by
    rw [gI_copy dj, if_neg (by omega), if_neg (by omega), if_neg (by omega), if_neg (by omega), if_neg (by omega)]; exact k4
  have e2 : ∀ v, gI (sI (w_X1_copy (30 + 3 * nx) 15 h) 28 1 v) 28 0 = nI k := fun v => by
    rw [gI_sI_at, if_neg (by decide), gI_copy dj, if_neg (by omega), if_neg (by omega), if_neg (by omega), if_neg (by omega), if_neg (by omega)]; exact k3
  rw [e1, e2, nI_add, nI_add, irem_nI (by omega) (by decide) (by decide)]
  have e3 : (if nI 6 < nI (k + 1) then nI 6 else nI (k + 1)) = nI (kU k) := by
    unfold kU
    by_cases q : k = 6
    · rw [if_pos (nI_lt (by omega) (by omega)), if_pos q]
    · rw [if_neg (nI_nlt (by omega) (by decide)), if_neg q]
  rw [e3]
  have g : ∀ b j, (b = 28 → j ≠ 0 ∧ j ≠ 1) → gI (sI (sI (w_X1_copy (30 + 3 * nx) 15 h) 28 1 (nI ((nx + 1) % 6))) 28 0 (nI (kU k))) b j = gI (w_X1_copy (30 + 3 * nx) 15 h) b j := fun b j u => by
    rw [gI_sI, if_neg (fun z => (u z.1).1 z.2), gI_sI, if_neg (fun z => (u z.1).2 z.2)]
  have gj : ∀ b j, gJ (sI (sI (w_X1_copy (30 + 3 * nx) 15 h) 28 1 (nI ((nx + 1) % 6))) 28 0 (nI (kU k))) b j = gJ (w_X1_copy (30 + 3 * nx) 15 h) b j := fun _ _ => rfl
  have g0 : gI (sI (sI (w_X1_copy (30 + 3 * nx) 15 h) 28 1 (nI ((nx + 1) % 6))) 28 0 (nI (kU k))) 28 0 = nI (kU k) := rfl
  have g1 : gI (sI (sI (w_X1_copy (30 + 3 * nx) 15 h) 28 1 (nI ((nx + 1) % 6))) 28 0 (nI (kU k))) 28 1 = nI ((nx + 1) % 6) := rfl
  have gt : (sI (sI (w_X1_copy (30 + 3 * nx) 15 h) 28 1 (nI ((nx + 1) % 6))) 28 0 (nI (kU k))).2.2 = h.2.2 := rfl
  generalize sI (sI (w_X1_copy (30 + 3 * nx) 15 h) 28 1 (nI ((nx + 1) % 6))) 28 0 (nI (kU k)) = hh at *
  have new : CC hh (30 + 3 * nx) w ∧ gI hh (30 + 3 * nx) 3 = nI w.2.2.2.2.2.length := by
    refine ⟨(CC_copy dj hC).tr (fun b j u v => g b j (by omega)) (gj _ _), ?_⟩
    rw [g _ _ (by omega), gI_copy dj, if_neg (by omega), if_neg (by omega), if_pos ⟨rfl, rfl⟩]; exact hR
  have old : ∀ t, t < 6 → t ≠ nx → ∀ u : Cd, CC h (30 + 3 * t) u → gI h (30 + 3 * t) 3 = nI u.2.2.2.2.2.length → CC hh (30 + 3 * t) u ∧ gI hh (30 + 3 * t) 3 = nI u.2.2.2.2.2.length := by
    intro t ht ne u c1 c2
    have gg : ∀ b j, 30 + 3 * t ≤ b → b < 30 + 3 * t + 3 → gI hh b j = gI h b j := fun b j x y => by
      rw [g _ _ (by omega), gI_copy dj, if_neg (by omega), if_neg (by omega), if_neg (by omega), if_neg (by omega), if_neg (by omega)]
    refine ⟨c1.tr gg ?_, by rw [gg _ _ (by omega) (by omega)]; exact c2⟩
    rw [gj, gJ_copy, if_neg (by omega)]
  refine K hh gt (fun b j u => ?_) (fun b j u => ?_) ⟨(nx + 1) % 6, ?_, by omega, g0, g1, fun j hj => ?_⟩
  · rw [g _ _ (by omega), gI_copy dj, if_neg (by omega), if_neg (by omega), if_neg (by omega), if_neg (by omega), if_neg (by omega)]
  · rw [gj, gJ_copy, if_neg (by omega)]
  · unfold kU; split <;> omega
  · unfold kU uU at *
    by_cases q : k = 6
    · rw [if_pos q] at hj ⊢
      rw [if_pos q]
      by_cases z : j = 5
      · rw [if_pos z, show ((nx + 1) % 6 + 6 - 6 + j) % 6 = nx by omega]; exact new
      · have := k5 (j + 1) (by omega)
        rw [if_neg z]
        have e : (nx + 6 - k + (j + 1)) % 6 = ((nx + 1) % 6 + 6 - 6 + j) % 6 := by omega
        rw [e] at this
        exact old _ (by omega) (by omega) _ this.1 this.2
    · rw [if_neg q] at hj ⊢
      rw [if_neg q]
      by_cases z : j = k
      · rw [if_pos z, show ((nx + 1) % 6 + 6 - (k + 1) + j) % 6 = nx by omega]; exact new
      · have := k5 j (by omega)
        rw [if_neg z]
        have e : (nx + 6 - k + j) % 6 = ((nx + 1) % 6 + 6 - (k + 1) + j) % 6 := by omega
        rw [e] at this
        exact old _ (by omega) (by omega) _ this.1 this.2
theorem s_singC (hL : Lay T) (eT : h.2.2 = T) (hn : gI h 12 0 = nI n) (h4 : 4 ≤ n) (h16 : n ≤ 16) {c : List Nat} (hc : sm c) (hc16 : c.length ≤ 16) (hd : gJ h 12 2 = lN (enc c)) {sl : Nat} (hsl : gI h 12 1 = nI sl) (h1000 : sl ≤ 1000) {k N : Nat} (hk : k < 4) {s : List Mv} (hG : SG h (20 + 2 * k) s) (hN : sgN n s) (hN1 : 1 ≤ N) (hN50 : N ≤ 50) {p : Sg} (k6 : p.1 ≤ 6) (vw : VW n p.2.2.1) (hv : HV n p.2.2.1 p.1 p.2.1) (p0 : p.2.2.2 = nI 0) {nx : Nat} (hH : HC h p.1 nx p.2.1) (hC : CC h 15 p.2.2.1) (hR : CR h 12 p.2.2.1.2.2.2.2.2)
    (K : ∀ h' : Hp, h'.2.2 = h.2.2 → frC h h' → (∃ nx', HC h' (sng sl c s p N).1 nx' (sng sl c s p N).2.1) → CC h' 15 (sng sl c s p N).2.2.1 → CR h' 12 (sng sl c s p N).2.2.1.2.2.2.2.2 → Q (some (.int (sng sl c s p N).2.2.2)) h') : Call (d + 5) MX10_sing [.ref 1, .int (nI k), .int (nI N)] h Q := by
  have ok := sng_ok (sl := sl) (c := c) (s := s) (p := p) (show 0 < n by omega) h16 hc hN k6 vw hv
  refine b_X10_sing hL eT _ _ ⟨fun _ => ⟨fun z => absurd z (nI_nlt (by omega) (by omega)), fun _ => ⟨fun z => absurd z (nI_nlt (by omega) (by decide)), fun _ => ?_⟩⟩, fun z => absurd (isSongC_iff.mpr ⟨k, hk, rfl⟩) z⟩
  have main := upto N (fun i h1 => h1.2.2 = h.2.2 ∧ frC h h1 ∧ (∃ nx', HC h1 (sng sl c s p i).1 nx' (sng sl c s p i).2.1) ∧ CC h1 15 (sng sl c s p i).2.2.1 ∧ CR h1 12 (sng sl c s p i).2.2.1.2.2.2.2.2) (fun i h1 => L_X10_sing_25 d (nI k) (nI N) (sng sl c s p i).2.2.2 (nI i) h1 Q) ?_ ?_ 0 h (Nat.zero_le _) ⟨rfl, ⟨fun _ _ _ _ _ => rfl, fun _ _ _ _ => rfl⟩, ⟨nx, hH⟩, hC, hR⟩
  · have e : (sng sl c s p 0).2.2.2 = nI 0 := p0
    rw [e] at main
    exact main
  · rintro i h1 hi ⟨t1, f1, ⟨nx1, H1⟩, C1, R1⟩ ih
    refine b_X10_sing_25 hL (t1.trans eT) _ _ _ _ ⟨fun _ => ?_, fun z => absurd (nI_lt hi (by omega)) z⟩
    refine s_remember (d := d + 3) hL (t1.trans eT) H1 C1 R1.2.1 (fun h2 t2 g2 j2 H2 => ⟨rfl, t2.trans (t1.trans eT), k, rfl, hk, ?_⟩)
    have gg : ∀ b j, (b = 15 → j ≠ 1 ∧ j ≠ 2 ∧ j ≠ 3) → ¬ (16 ≤ b ∧ b ≤ 18) → ¬ (28 ≤ b ∧ b < 48) → gI h2 b j = gI h b j := fun b j u v w => by rw [g2 b j w, f1.1 b j u v w]
    refine s_singOnce (d := d) hL (t2.trans (t1.trans eT)) (by rw [gg _ _ (by omega) (by omega) (by omega)]; exact hn) (by omega) h16 hc hc16 (by rw [j2 _ _ (by omega), f1.2 _ _ (by omega) (by omega)]; exact hd) (by rw [gg _ _ (by omega) (by omega) (by omega)]; exact hsl) h1000 (ok i).2.1.1 (C1.tr (fun b j u v => g2 b j (by omega)) (j2 _ _ (by omega))) (R1.tr (g2 _ _ (by omega)) (fun j => g2 _ _ (by omega))) hk (hG.tr (fun b j u v => gg b j (by omega) (by omega) (by omega))) hN (fun h3 t3 fi fj C3 R3 => ⟨_, rfl, t3.trans (t2.trans (t1.trans eT)), ?_⟩)
    rw [nI_add i 1]
    obtain ⟨nx2, H2⟩ := H2
    refine ih h3 ⟨t3.trans (t2.trans t1), ⟨fun b j u v w => ?_, fun b j u v => ?_⟩, ⟨nx2, H2.tr (fun b j u v => fi b j (by omega) (by omega) (by omega) (by omega)) (fun b j u v => fj b j (by omega))⟩, C3, R3⟩
    · rw [fi b j (by omega) (by omega) (by omega) u, gg b j u v w]
    · rw [fj b j u, j2 b j v, f1.2 b j u v]
  · rintro h1 ⟨t1, f1, H1, C1, R1⟩
    exact b_X10_sing_25 hL (t1.trans eT) _ _ _ _ ⟨fun z => absurd z (nI_nlt (Nat.le_refl _) (by omega)), fun _ => K h1 t1 f1 H1 C1 R1⟩
end Sing
