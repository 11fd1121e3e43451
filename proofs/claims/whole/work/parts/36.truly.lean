-- a true singing: state of draws, count, counts by strand, seats, counts of overs, rows
abbrev Cd : Type := Int32 × Int32 × (Nat → Int32) × List Nat × (Nat → Int32) × List (Nat × Nat)
theorem drw_ex : ∃ f : Int32 → Int32, ∀ s, f s = nI 1664525 * s + nI 1013904223 := ⟨fun s => nI 1664525 * s + nI 1013904223, fun _ => rfl⟩
noncomputable def drw : Int32 → Int32 := Classical.choose drw_ex
theorem drw_eq (s : Int32) : drw s = nI 1664525 * s + nI 1013904223 := Classical.choose_spec drw_ex s
def slp (s : Int32) : Int32 := irem (ushr s (nI 8)) (nI 1000)
def passB (l : List Nat) (m : Mv) (y : Nat) : Bool := (List.range 16).any (fun t => decide (t < l.length) && (decide (l.getD t 0 = y) && (if m.1 = 0 then decide ((m.2.1 < t ∧ t ≤ m.2.2.1) ∨ (m.2.2.1 ≤ t ∧ t < m.2.1)) else decide (t = m.2.2.1 ∧ m.2.1 ≠ m.2.2.1))))
theorem passB_iff {l : List Nat} {m : Mv} {y : Nat} (h16 : l.length ≤ 16) (ha : m.2.1 < l.length) (hb : m.2.2.1 < l.length) : (passB l m y = true) ↔ passM l m y := by
  unfold passB passM passed
  rw [List.any_eq_true]
  constructor
  · rintro ⟨t, ht, q⟩
    rw [Bool.and_eq_true, Bool.and_eq_true, decide_eq_true_iff, decide_eq_true_iff] at q
    obtain ⟨q1, q2, q3⟩ := q
    by_cases z : m.1 = 0
    · rw [if_pos z, decide_eq_true_iff] at q3
      exact Or.inl ⟨z, t, q3, q2⟩
    · rw [if_neg z, decide_eq_true_iff] at q3
      exact Or.inr ⟨z, q3.2, by rw [← q3.1]; exact q2.symm⟩
  · rintro (⟨z, t, q3, q2⟩ | ⟨z, q2, q3⟩)
    · refine ⟨t, List.mem_range.mpr (by omega), ?_⟩
      rw [if_pos z, decide_eq_true q3, decide_eq_true q2, decide_eq_true (show t < l.length by omega)]
      rfl
    · refine ⟨m.2.2.1, List.mem_range.mpr (by omega), ?_⟩
      rw [if_neg z, decide_eq_true q3.symm, decide_eq_true hb, decide_eq_true ⟨rfl, q2⟩]
      rfl
def ovr (l : List Nat) (m : Mv) (o : Nat → Int32) : Nat → Int32 := fun j => if j / 16 = l.getD m.2.1 0 ∧ passB l m (j % 16) = true then o j + nI 1 else o j
def inc (x : Nat) (f : Nat → Int32) : Nat → Int32 := fun j => if j = x then f j + nI 1 else f j
def addR (c : List Nat) (x : Nat) (R : List (Nat × Nat)) : List (Nat × Nat) := if R.length < 300 then R ++ [(x, c.getD x 0)] else R
def tm1 (c : List Nat) (w : Cd) (m : Mv) : Cd × Nat :=
  if m.1 = 2 then ((w.1, w.2.1, w.2.2.1, mk1 w.2.2.2.1 m, w.2.2.2.2.1, w.2.2.2.2.2), 0)
  else if fits1 w.2.2.2.1 c m = true then ((w.1, w.2.1 + nI 1, inc (w.2.2.2.1.getD m.2.1 0) w.2.2.1, mk1 w.2.2.2.1 m, ovr w.2.2.2.1 m w.2.2.2.2.1, addR c (w.2.2.2.1.getD m.2.1 0) w.2.2.2.2.2), 1)
  else (w, 0)
noncomputable def tr1 (sl : Nat) (c : List Nat) (p : Cd × Nat) (m : Mv) : Cd × Nat :=
  if m.1 ≠ 2 ∧ 0 < sl then
    if slp (drw p.1.1) < nI sl then ((drw p.1.1, p.1.2), p.2)
    else ((tm1 c (drw p.1.1, p.1.2) m).1, p.2 + (tm1 c (drw p.1.1, p.1.2) m).2)
  else ((tm1 c p.1 m).1, p.2 + (tm1 c p.1 m).2)
noncomputable def trS (sl : Nat) (c : List Nat) (w : Cd) (s : List Mv) : Cd × Nat := s.foldl (tr1 sl c) (w, 0)
theorem trS_succ {sl : Nat} {c : List Nat} {w : Cd} {s : List Mv} {i : Nat} (hi : i < s.length) : trS sl c w (s.take (i + 1)) = tr1 sl c (trS sl c w (s.take i)) (gM s i) := by
  unfold trS
  rw [take_succ_gM hi, List.foldl_append]
  rfl
theorem tm1_cnt (c : List Nat) (w : Cd) (m : Mv) : (tm1 c w m).2 ≤ 1 := by
  unfold tm1
  split
  · exact Nat.zero_le _
  · split
    · exact Nat.le_refl _
    · exact Nat.zero_le _
theorem tr1_cnt (sl : Nat) (c : List Nat) (p : Cd × Nat) (m : Mv) : (tr1 sl c p m).2 ≤ p.2 + 1 := by
  unfold tr1
  split
  · split
    · exact Nat.le_succ _
    · exact Nat.add_le_add_left (tm1_cnt _ _ _) _
  · exact Nat.add_le_add_left (tm1_cnt _ _ _) _
theorem trS_cnt (sl : Nat) (c : List Nat) (w : Cd) (s : List Mv) : ∀ i, i ≤ s.length → (trS sl c w (s.take i)).2 ≤ i
  | 0, _ => Nat.le_refl _
  | i + 1, h => by
    rw [trS_succ (by omega)]
    have := tr1_cnt sl c (trS sl c w (s.take i)) (gM s i)
    have := trS_cnt sl c w s i (by omega)
    omega
theorem pm_tm1 {n : Nat} {c : List Nat} {w : Cd} {m : Mv} (hp : pm n w.2.2.2.1) (h0 : 0 < n) (hm : mvN n m) : pm n (tm1 c w m).1.2.2.2.1 := by
  unfold tm1
  split
  · exact pm_mk1 hp h0 hm
  · split
    · exact pm_mk1 hp h0 hm
    · exact hp
theorem pm_tr1 {n sl : Nat} {c : List Nat} {p : Cd × Nat} {m : Mv} (hp : pm n p.1.2.2.2.1) (h0 : 0 < n) (hm : mvN n m) : pm n (tr1 sl c p m).1.2.2.2.1 := by
  unfold tr1
  generalize drw p.1.1 = t
  have k := fun (w' : Cd) hw' => pm_tm1 (c := c) (w := w') (m := m) hw' h0 hm
  by_cases q : m.1 ≠ 2 ∧ 0 < sl
  · rw [if_pos q]
    by_cases z : slp t < nI sl
    · rw [if_pos z]; exact hp
    · rw [if_neg z]
      have b := k (t, p.1.2) hp
      generalize tm1 c (t, p.1.2) m = y at b
      exact b
  · rw [if_neg q]
    have b := k p.1 hp
    generalize tm1 c p.1 m = y at b
    exact b
theorem pm_trS {n sl : Nat} {c : List Nat} {w : Cd} {s : List Mv} (hp : pm n w.2.2.2.1) (h0 : 0 < n) (hs : sgN n s) : ∀ i, i ≤ s.length → pm n (trS sl c w (s.take i)).1.2.2.2.1
  | 0, _ => hp
  | i + 1, h => by
    rw [trS_succ (by omega)]
    exact pm_tr1 (pm_trS hp h0 hs i (by omega)) h0 (hs _ (gM_mem (by omega)))
-- as the model keeps it in row 60 (seats apart)
def gQ (R : List (Nat × Nat)) (i : Nat) : Nat × Nat := R.getD i (0, 0)
def CdM (h : Hp) (w : Cd) : Prop := gI h 60 2 = w.1 ∧ gI h 60 4 = w.2.1 ∧ (∀ s, s < 16 → gI h 60 (26 + s) = w.2.2.1 s) ∧ (∀ j, j < 256 → gI h 60 (60 + j) = w.2.2.2.2.1 j) ∧ w.2.2.2.2.2.length ≤ 300 ∧ gI h 60 3 = nI w.2.2.2.2.2.length ∧ ∀ i, i < w.2.2.2.2.2.length → gI h 60 (320 + 2 * i) = nI (gQ w.2.2.2.2.2 i).1 ∧ gI h 60 (320 + 2 * i + 1) = nI (gQ w.2.2.2.2.2 i).2
def tch (j : Nat) : Prop := j = 2 ∨ j = 3 ∨ j = 4 ∨ (26 ≤ j ∧ j < 42) ∨ (60 ≤ j ∧ j < 316) ∨ (320 ≤ j ∧ j < 920)
def frM (h h' : Hp) : Prop := ∀ x j, x ≠ 65 → x ≠ 66 → (x = 60 → ¬ tch j) → gI h' x j = gI h x j
theorem frM.trans {h h1 h2 : Hp} (a : frM h h1) (b : frM h1 h2) : frM h h2 := fun x j u v w => by rw [b x j u v w, a x j u v w]
theorem gQ_app {R : List (Nat × Nat)} {x : Nat × Nat} {i : Nat} : gQ (R ++ [x]) i = if i < R.length then gQ R i else if i = R.length then x else (0, 0) := by
  unfold gQ
  rw [List.getD_eq_getElem?_getD, List.getElem?_append]
  by_cases q : i < R.length
  · rw [if_pos q, if_pos q, List.getD_eq_getElem?_getD]
  · rw [if_neg q, if_neg q]
    by_cases z : i = R.length
    · rw [if_pos z, z, Nat.sub_self]; rfl
    · rw [if_neg z, List.getElem?_eq_none (by simp only [List.length_cons, List.length_nil]; omega)]; rfl
theorem writes_eq {h : Hp} {x r : Nat} (hx : x < 16) (hr : gI h 60 3 = nI r) (h300 : r ≤ 300) : p_X11_writes (nI x) h ∧ w_X11_writes (nI x) h = if r = 300 then h else sI (sI (sI h 60 (320 + 2 * r) (nI x)) 60 (320 + 2 * r + 1) (gI h 60 (10 + x))) 60 3 (nI (r + 1)) := by
  unfold p_X11_writes w_X11_writes
  rw [hr]
  by_cases q : r = 300
  · rw [if_pos (by rw [q]), if_pos q]
    exact ⟨⟨fun _ => trivial, fun z => absurd (by rw [q]) z⟩, rfl⟩
  · have q' : ¬ nI r = nI 300 := fun z => q (nI_inj (by omega) (by omega) z)
    rw [if_neg q', if_neg q]
    simp (disch := omega) only [nI_add, pk_mul, pk_sub, nI_clamp, nI_ltI, nI_leI, nI_eq, irem_nI, inB_iff, nI_lt0, nI_eq0, nI_gt0]
    have e1 : ∀ v, gI (sI h 60 (320 + 2 * r) v) 60 3 = nI r := fun v => by rw [gI_sI_at, if_neg (by omega)]; exact hr
    have e2 : ∀ v, gI (sI h 60 (320 + 2 * r) v) 60 (10 + x) = gI h 60 (10 + x) := fun v => by rw [gI_sI_at, if_neg (by omega)]
    rw [e1, e2]
    simp (disch := omega) only [nI_add, pk_mul, pk_sub, nI_clamp, nI_ltI, nI_leI, nI_eq, irem_nI, inB_iff, nI_lt0, nI_eq0, nI_gt0]
    refine ⟨⟨fun z => absurd z (by omega), fun _ => ⟨by omega, by omega, by omega, trivial⟩⟩, ?_⟩
    rw [gI_sI_at, if_neg (by omega), e1, nI_add]
section MTruly
variable {d : Nat} {T : HT} {h : Hp} {Q : Option Value → Hp → Prop}
theorem m1_dr (v : Nat) (hv : v < 16) : (nI v = (-1)) ↔ v = 16 := ⟨fun z => ((nI_m1 v (by omega)).mp z).elim, fun z => by omega⟩
theorem s_true73 (hL : Lay T) (eT : h.2.2 = T) {n : Nat} {c : List Nat} {sg : Nat → List Mv} (hb : MB h n c sg) {w : Cd} (hp : pm n w.2.2.2.1) (hs : MS h w.2.2.2.1) (hM : CdM h w) {k i cnt : Nat} (hk : k < 4) (hi : i < (sg k).length)
    (K : ∀ h' : Hp, h'.2 = h.2 → frM h h' → CdM h' (tm1 c w (gM (sg k) i)).1 → MS h' (tm1 c w (gM (sg k) i)).1.2.2.2.1 → L_X11_singsTruly_8 d (nI k) (nI (cnt + (tm1 c w (gM (sg k) i)).2)) (nI (i + 1)) h' Q) : L_X11_singsTruly_73 d (nI k) (nI cnt) (nI i) h Q := by
  obtain ⟨c1, ⟨c2, c3⟩, ⟨c4, c5, c6⟩, c7⟩ := id hb
  have hl := hp.1
  have hm := (c7 k hk).2 _ (gM_mem hi)
  refine b_X11_singsTruly_73 hL eT _ _ _ ?_
  rw [nI_add]
  refine s_moves (d := d) (c := c) hL eT (by rw [hl]; exact c1) (by omega) hs c4 c5 (pm_sm hp c3) hp.2.1 (by omega) hk (c7 k hk).1 (by rw [hl]; exact (c7 k hk).2) hi (m := gM (sg k) i) (mi := 0) (by decide) (by decide : (1 : Nat) < 2) m1_dr (by decide : (1 : Nat) < 2) (by rw [if_neg (by decide)]) ?_ ?_ ?_
  · intro q h' e2 g s3
    refine ⟨_, rfl, e2T e2 eT, fun _ => ?_, fun z => absurd rfl z⟩
    have e : tm1 c w (gM (sg k) i) = ((w.1, w.2.1, w.2.2.1, mk1 w.2.2.2.1 (gM (sg k) i), w.2.2.2.2.1, w.2.2.2.2.2), 0) := by unfold tm1; rw [if_pos q]
    rw [e] at K
    have g60 : ∀ j, gI h' 60 j = gI h 60 j := fun j => g 60 j (by decide) (by decide)
    refine K h' e2 (fun x j u v _ => g x j u v) ?_ s3
    unfold CdM
    simp only [g60]
    exact hM
  · intro q z
    refine ⟨_, rfl, eT, fun _ => ?_, fun z => absurd rfl z⟩
    have hx := sm_getD (pm_sm hp c3) (gM (sg k) i).2.1
    have e : tm1 c w (gM (sg k) i) = (w, 0) := by
      unfold tm1
      rw [if_neg q, if_neg (z.elim (fun y => by omega) (fun y => y.2))]
    rw [e] at K
    exact K h rfl (fun _ _ _ _ _ => rfl) hM hs
  · intro q _ z h' e2 g s3 o
    have hx := sm_getD (pm_sm hp c3) (gM (sg k) i).2.1
    have hab := hm.2.2.1 (by have := hm.1; omega)
    have e : tm1 c w (gM (sg k) i) = ((w.1, w.2.1 + nI 1, inc (w.2.2.2.1.getD (gM (sg k) i).2.1 0) w.2.2.1, mk1 w.2.2.2.1 (gM (sg k) i), ovr w.2.2.2.1 (gM (sg k) i) w.2.2.2.2.1, addR c (w.2.2.2.1.getD (gM (sg k) i).2.1 0) w.2.2.2.2.2), 1) := by unfold tm1; rw [if_neg q, if_pos (z rfl)]
    rw [e] at K
    generalize hxe : w.2.2.2.1.getD (gM (sg k) i).2.1 0 = x at hx K o ⊢
    obtain ⟨m1, m2, m3, m4, m5, m6, m7⟩ := hM
    refine ⟨_, rfl, e2T e2 eT, fun y => absurd ((nI_m1 x (by omega)).mp y) (fun z => z), fun _ => ?_⟩
    rw [nI_add, nI_clamp (by omega), nI_add]
    have g3 : gI h' 60 3 = nI w.2.2.2.2.2.length := by rw [o.1 _ (by omega)]; exact m6
    have hg3 : ∀ u v, gI (sI (sI h' 60 4 u) 60 (26 + x) v) 60 3 = nI w.2.2.2.2.2.length := fun u v => by
      rw [gI_sI_at, if_neg (by omega), gI_sI_at, if_neg (by omega)]; exact g3
    obtain ⟨w1, w2⟩ := writes_eq (h := sI (sI h' 60 4 (gI h' 60 4 + nI 1)) 60 (26 + x) (gI (sI h' 60 4 (gI h' 60 4 + nI 1)) 60 (26 + x) + nI 1)) hx (hg3 _ _) m5
    refine ⟨(inB_iff (by omega)).mpr (by omega), (inB_iff (by omega)).mpr (by omega), w1, ?_⟩
    rw [w2]
    have gg : ∀ j, gI (sI (sI h' 60 4 (gI h' 60 4 + nI 1)) 60 (26 + x) (gI (sI h' 60 4 (gI h' 60 4 + nI 1)) 60 (26 + x) + nI 1)) 60 j = if j = 26 + x then gI h' 60 j + nI 1 else if j = 4 then gI h' 60 4 + nI 1 else gI h' 60 j := fun j => by
      rw [gI_sI_at, gI_sI_at, gI_sI_at]
      by_cases y : j = 26 + x
      · rw [if_pos y, if_pos y, if_neg (by omega), y]
      · rw [if_neg y, if_neg y]
    have gn : ∀ b j, b ≠ 60 → gI (sI (sI h' 60 4 (gI h' 60 4 + nI 1)) 60 (26 + x) (gI (sI h' 60 4 (gI h' 60 4 + nI 1)) 60 (26 + x) + nI 1)) b j = gI h' b j := fun b j hb => by
      rw [gI_sI_ne hb, gI_sI_ne hb]
    have e20 : (sI (sI h' 60 4 (gI h' 60 4 + nI 1)) 60 (26 + x) (gI (sI h' 60 4 (gI h' 60 4 + nI 1)) 60 (26 + x) + nI 1)).2 = h.2 := e2
    generalize sI (sI h' 60 4 (gI h' 60 4 + nI 1)) 60 (26 + x) (gI (sI h' 60 4 (gI h' 60 4 + nI 1)) 60 (26 + x) + nI 1) = hh at gg gn e20
    have hov : ∀ j, j < 256 → gI h' 60 (60 + j) = ovr w.2.2.2.1 (gM (sg k) i) w.2.2.2.2.1 j := fun j hj => by
      obtain ⟨o1, o2⟩ := o.2 (j / 16) (j % 16) (by omega) (by omega)
      rw [show 60 + 16 * (j / 16) + j % 16 = 60 + j by omega] at o1 o2
      unfold ovr
      rw [hxe]
      by_cases y : j / 16 = x ∧ passB w.2.2.2.1 (gM (sg k) i) (j % 16) = true
      · rw [if_pos y, o1 ⟨y.1, (passB_iff (by omega) (by omega) (by omega)).mp y.2⟩, m4 j hj]
      · rw [if_neg y, o2 (fun v => y ⟨v.1, (passB_iff (by omega) (by omega) (by omega)).mpr v.2⟩), m4 j hj]
    by_cases y : w.2.2.2.2.2.length = 300
    · rw [if_pos y]
      have eR : addR c x w.2.2.2.2.2 = w.2.2.2.2.2 := by unfold addR; rw [if_neg (by omega)]
      rw [eR] at K
      refine K hh e20 (fun b j u v f => ?_) ⟨?_, ?_, ?_, ?_, m5, ?_, ?_⟩ (fun s hs' => ?_)
      · by_cases hb60 : b = 60
        · have ft := f hb60
          unfold tch at ft
          rw [hb60, gg, if_neg (by omega), if_neg (by omega)]
          exact o.1 j (by omega)
        · rw [gn b j hb60]; exact g b j hb60 u
      · rw [gg, if_neg (by omega), if_neg (by omega), o.1 _ (by omega)]; exact m1
      · rw [gg, if_neg (by omega), if_pos rfl, o.1 _ (by omega), m2]
      · intro s hs'
        rw [gg, o.1 _ (by omega)]
        unfold inc
        dsimp only
        by_cases v : s = x
        · rw [if_pos (by omega), if_pos v, m3 s hs']
        · rw [if_neg (by omega), if_neg (by omega), if_neg v, m3 s hs']
      · intro j hj
        rw [gg, if_neg (by omega), if_neg (by omega)]; exact hov j hj
      · rw [gg, if_neg (by omega), if_neg (by omega)]; exact g3
      · intro i' hi'
        dsimp only at hi' ⊢
        rw [gg, gg, if_neg (by omega), if_neg (by omega), if_neg (by omega), if_neg (by omega), o.1 _ (by omega), o.1 _ (by omega)]
        exact m7 i' hi'
      · rw [gn _ _ (by decide)]; exact s3 s hs'
    · rw [if_neg y]
      have eR : addR c x w.2.2.2.2.2 = w.2.2.2.2.2 ++ [(x, c.getD x 0)] := by unfold addR; rw [if_pos (by omega)]
      rw [eR] at K
      have g4 : ∀ j, gI (sI (sI (sI hh 60 (320 + 2 * w.2.2.2.2.2.length) (nI x)) 60 (320 + 2 * w.2.2.2.2.2.length + 1) (gI hh 60 (10 + x))) 60 3 (nI (w.2.2.2.2.2.length + 1))) 60 j = if j = 3 then nI (w.2.2.2.2.2.length + 1) else if j = 320 + 2 * w.2.2.2.2.2.length + 1 then nI (c.getD x 0) else if j = 320 + 2 * w.2.2.2.2.2.length then nI x else gI hh 60 j := fun j => by
        rw [gI_sI_at, gI_sI_at, gI_sI_at]
        by_cases v : j = 3
        · rw [if_pos v, if_pos v]
        · rw [if_neg v, if_neg v]
          by_cases v2 : j = 320 + 2 * w.2.2.2.2.2.length + 1
          · rw [if_pos v2, if_pos v2, gg, if_neg (by omega), if_neg (by omega), o.1 _ (by omega), c4 x hx]
          · rw [if_neg v2, if_neg v2]
      have g5 : ∀ b j, b ≠ 60 → gI (sI (sI (sI hh 60 (320 + 2 * w.2.2.2.2.2.length) (nI x)) 60 (320 + 2 * w.2.2.2.2.2.length + 1) (gI hh 60 (10 + x))) 60 3 (nI (w.2.2.2.2.2.length + 1))) b j = gI h' b j := fun b j hb => by
        rw [gI_sI_ne hb, gI_sI_ne hb, gI_sI_ne hb, gn b j hb]
      have e21 : (sI (sI (sI hh 60 (320 + 2 * w.2.2.2.2.2.length) (nI x)) 60 (320 + 2 * w.2.2.2.2.2.length + 1) (gI hh 60 (10 + x))) 60 3 (nI (w.2.2.2.2.2.length + 1))).2 = h.2 := e20
      generalize sI (sI (sI hh 60 (320 + 2 * w.2.2.2.2.2.length) (nI x)) 60 (320 + 2 * w.2.2.2.2.2.length + 1) (gI hh 60 (10 + x))) 60 3 (nI (w.2.2.2.2.2.length + 1)) = hk' at g4 g5 e21
      have eL : (w.2.2.2.2.2 ++ [(x, c.getD x 0)]).length = w.2.2.2.2.2.length + 1 := by rw [List.length_append]; rfl
      refine K hk' e21 (fun b j u v f => ?_) ⟨?_, ?_, ?_, ?_, ?_, ?_, ?_⟩ (fun s hs' => ?_)
      · by_cases hb60 : b = 60
        · have ft := f hb60
          unfold tch at ft
          rw [hb60, g4, if_neg (by omega), if_neg (by omega), if_neg (by omega), gg, if_neg (by omega), if_neg (by omega)]
          exact o.1 j (by omega)
        · rw [g5 b j hb60]; exact g b j hb60 u
      · rw [g4, if_neg (by omega), if_neg (by omega), if_neg (by omega), gg, if_neg (by omega), if_neg (by omega), o.1 _ (by omega)]; exact m1
      · rw [g4, if_neg (by omega), if_neg (by omega), if_neg (by omega), gg, if_neg (by omega), if_pos rfl, o.1 _ (by omega), m2]
      · intro s hs'
        rw [g4, if_neg (by omega), if_neg (by omega), if_neg (by omega), gg, o.1 _ (by omega)]
        unfold inc
        dsimp only
        by_cases v : s = x
        · rw [if_pos (by omega), if_pos v, m3 s hs']
        · rw [if_neg (by omega), if_neg (by omega), if_neg v, m3 s hs']
      · intro j hj
        rw [g4, if_neg (by omega), if_neg (by omega), if_neg (by omega), gg, if_neg (by omega), if_neg (by omega)]; exact hov j hj
      · dsimp only
        rw [eL]; omega
      · dsimp only
        rw [g4, if_pos rfl, eL]
      · intro i' hi'
        dsimp only at hi' ⊢
        rw [eL] at hi'
        have t1 := g4 (320 + 2 * i')
        have t2 := g4 (320 + 2 * i' + 1)
        have t3 := gQ_app (R := w.2.2.2.2.2) (x := (x, c.getD x 0)) (i := i')
        by_cases v : i' = w.2.2.2.2.2.length
        · rw [if_neg (by omega), if_neg (by omega), if_pos (by omega)] at t1
          rw [if_neg (by omega), if_pos (by omega)] at t2
          rw [if_neg (by omega), if_pos v] at t3
          rw [t1, t2, t3]
          exact ⟨rfl, rfl⟩
        · rw [if_neg (by omega), if_neg (by omega), if_neg (by omega), gg, if_neg (by omega), if_neg (by omega), o.1 _ (by omega)] at t1
          rw [if_neg (by omega), if_neg (by omega), if_neg (by omega), gg, if_neg (by omega), if_neg (by omega), o.1 _ (by omega)] at t2
          rw [if_pos (by omega)] at t3
          rw [t1, t2, t3]
          exact m7 i' (by omega)
      · rw [g5 _ _ (by decide)]; exact s3 s hs'
end MTruly
