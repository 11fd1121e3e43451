-- the grammar, read from tokens: kinds kk, numbers nn, by their index
abbrev Rs (α : Type) : Type := (Nat × Nat) ⊕ α
def rdNum (kk nn : Nat → Nat) (i lo hi : Nat) : Rs Nat := if kk i = 2 then (if lo ≤ nn i ∧ nn i ≤ hi then .inr (nn i) else .inl (2, i)) else .inl (1, i)
def rdAsk (kk nn : Nat → Nat) (kd a b j : Nat) : Rs (Mv × Nat) := if kk j = 8 then (match rdNum kk nn (j + 1) 0 9 with
    | .inl e => .inl e
    | .inr c => if kk (j + 2) = 3 then .inr ((kd, a, b, c + 1), j + 3) else .inl (1, j + 2))
  else if kk j = 3 then .inr ((kd, a, b, 0), j + 1) else .inl (1, j)
def rdSnd (kk nn : Nat → Nat) (m kd a j : Nat) : Rs (Mv × Nat) := match rdNum kk nn j 0 (m - 1) with
  | .inl e => .inl e
  | .inr b => rdAsk kk nn kd a b (j + 1)
def rdMv (kk nn : Nat → Nat) (m kd i : Nat) : Rs (Mv × Nat) := match rdNum kk nn (i + 1) 0 (m - 1) with
  | .inl e => .inl e
  | .inr a => if kd = 0 then (if kk (i + 2) = 7 then rdSnd kk nn m kd a (i + 3) else .inl (1, i + 2)) else rdSnd kk nn m kd a (i + 2)
def rdTn (kk nn : Nat → Nat) (i : Nat) : Rs (Mv × Nat) := match rdNum kk nn (i + 1) 0 15 with
  | .inl e => .inl e
  | .inr a => if kk (i + 2) = 3 then .inr ((2, a, 0, 0), i + 3) else .inl (1, i + 2)
abbrev Mk : Type := Nat × List Mv
def psh1 (c : Mk) (m : Mv) : Mk := (c.1 + 1, if c.2.length < 200 then c.2 ++ [m] else c.2)
def cpy (ms : List Mv) (fr : Nat) : Nat → List Mv
  | 0 => ms
  | k + 1 => if (cpy ms fr k).length < 200 then cpy ms fr k ++ [gM (cpy ms fr k) (fr + k)] else cpy ms fr k
def cls1 (c : Mk) (fr r : Nat) : Mk := (c.1 + (c.1 - fr) * (r - 1), cpy c.2 fr ((c.1 - fr) * (r - 1)))
def pS (kk nn : Nat → Nat) (m : Nat) : Nat → Nat → Nat → Mk → Option (Rs (Nat × Mk))
  | 0, _, _, _ => none
  | f + 1, o, i, c =>
    if kk i = 6 ∨ kk i = 9 then (match rdMv kk nn m (if kk i = 6 then 0 else 1) i with
      | .inl e => some (.inl e)
      | .inr q => pS kk nn m f o q.2 (psh1 c q.1))
    else if kk i = 10 then (match rdTn kk nn i with
      | .inl e => some (.inl e)
      | .inr q => pS kk nn m f o q.2 (psh1 c q.1))
    else if kk i = 11 then (if o = 4 then some (.inl (3, i)) else match rdNum kk nn (i + 1) 1 9 with
      | .inl e => some (.inl e)
      | .inr r => if kk (i + 2) = 4 then (match pS kk nn m f (o + 1) (i + 3) c with
          | none => none
          | some (.inl e) => some (.inl e)
          | some (.inr q) => if kk q.1 = 5 then pS kk nn m f o (q.1 + 1) (cls1 q.2 c.1 r) else some (.inl (1, q.1)))
        else some (.inl (1, i + 2)))
    else some (.inr (i, c))
section Pure
variable {kk nn : Nat → Nat} {m : Nat}
theorem rdNum_ok {i lo hi a : Nat} (h : rdNum kk nn i lo hi = .inr a) : kk i = 2 ∧ a = nn i ∧ lo ≤ a ∧ a ≤ hi := by
  unfold rdNum at h
  by_cases q : kk i = 2
  · rw [if_pos q] at h
    by_cases z : lo ≤ nn i ∧ nn i ≤ hi
    · rw [if_pos z] at h
      have := Sum.inr.inj h
      exact ⟨q, this.symm, by omega, by omega⟩
    · rw [if_neg z] at h; cases h
  · rw [if_neg q] at h; cases h
theorem rdAsk_ok {kd a b j : Nat} {q : Mv × Nat} (h : rdAsk kk nn kd a b j = .inr q) : kk (q.2 - 1) = 3 ∧ j < q.2 ∧ q.1.1 = kd ∧ q.1.2.1 = a ∧ q.1.2.2.1 = b ∧ q.1.2.2.2 ≤ 10 := by
  unfold rdAsk at h
  by_cases z : kk j = 8
  · rw [if_pos z] at h
    cases hr : rdNum kk nn (j + 1) 0 9 with
    | inl e => rw [hr] at h; cases h
    | inr c =>
      rw [hr] at h
      dsimp only at h
      by_cases y : kk (j + 2) = 3
      · rw [if_pos y] at h
        have := Sum.inr.inj h
        obtain ⟨_, _, _, c9⟩ := rdNum_ok hr
        subst this
        exact ⟨y, by show j < j + 3; omega, rfl, rfl, rfl, by show c + 1 ≤ 10; omega⟩
      · rw [if_neg y] at h; cases h
  · rw [if_neg z] at h
    by_cases y : kk j = 3
    · rw [if_pos y] at h
      have := Sum.inr.inj h
      subst this
      exact ⟨y, by show j < j + 1; omega, rfl, rfl, rfl, by show 0 ≤ 10; omega⟩
    · rw [if_neg y] at h; cases h
theorem rdSnd_ok {kd a j : Nat} {q : Mv × Nat} (h : rdSnd kk nn m kd a j = .inr q) : kk (q.2 - 1) = 3 ∧ j < q.2 ∧ q.1.1 = kd ∧ q.1.2.1 = a ∧ q.1.2.2.1 ≤ m - 1 ∧ q.1.2.2.2 ≤ 10 := by
  unfold rdSnd at h
  cases hr : rdNum kk nn j 0 (m - 1) with
  | inl e => rw [hr] at h; cases h
  | inr b =>
    rw [hr] at h
    obtain ⟨_, _, _, b1⟩ := rdNum_ok hr
    obtain ⟨a1, a2, a3, a4, a5, a6⟩ := rdAsk_ok h
    exact ⟨a1, by omega, a3, a4, by rw [a5]; exact b1, a6⟩
theorem rdMv_ok {kd i : Nat} (hm : 0 < m) (hk : kd < 2) {q : Mv × Nat} (h : rdMv kk nn m kd i = .inr q) : kk (q.2 - 1) = 3 ∧ i + 2 < q.2 ∧ mvN m q.1 := by
  unfold rdMv at h
  cases hr : rdNum kk nn (i + 1) 0 (m - 1) with
  | inl e => rw [hr] at h; cases h
  | inr a =>
    rw [hr] at h
    dsimp only at h
    obtain ⟨_, _, _, a1⟩ := rdNum_ok hr
    have fin : ∀ j, i + 2 ≤ j → rdSnd kk nn m kd a j = .inr q → kk (q.2 - 1) = 3 ∧ i + 2 < q.2 ∧ mvN m q.1 := fun j hj hh => by
      obtain ⟨b1, b2, b3, b4, b5, b6⟩ := rdSnd_ok hh
      exact ⟨b1, by omega, by omega, b6, fun _ => ⟨by omega, by omega⟩, fun e => by omega⟩
    by_cases z : kd = 0
    · rw [if_pos z] at h
      by_cases y : kk (i + 2) = 7
      · rw [if_pos y] at h; exact fin _ (by omega) h
      · rw [if_neg y] at h; cases h
    · rw [if_neg z] at h; exact fin _ (by omega) h
theorem rdTn_ok {i : Nat} {q : Mv × Nat} (h : rdTn kk nn i = .inr q) : kk (q.2 - 1) = 3 ∧ i + 2 < q.2 ∧ mvN m q.1 := by
  unfold rdTn at h
  cases hr : rdNum kk nn (i + 1) 0 15 with
  | inl e => rw [hr] at h; cases h
  | inr a =>
    rw [hr] at h
    dsimp only at h
    obtain ⟨_, _, _, a1⟩ := rdNum_ok hr
    by_cases y : kk (i + 2) = 3
    · rw [if_pos y] at h
      have := Sum.inr.inj h
      subst this
      exact ⟨y, by show i + 2 < i + 3; omega, Nat.le_refl _, Nat.zero_le _, fun e => absurd e (by show ¬ 2 < 2; omega), fun _ => ⟨by show a < 16; omega, rfl, rfl⟩⟩
    · rw [if_neg y] at h; cases h
/-- a list of moves so far -/
def MkV (m : Nat) (c : Mk) : Prop := c.2.length = min c.1 200 ∧ sgN m c.2
theorem psh1_v {c : Mk} {q : Mv} (v : MkV m c) (hq : mvN m q) : MkV m (psh1 c q) := by
  obtain ⟨v1, v2⟩ := v
  unfold psh1
  by_cases z : c.2.length < 200
  · rw [if_pos z]
    refine ⟨by show (c.2 ++ [q]).length = min (c.1 + 1) 200; rw [List.length_append, List.length_singleton]; omega, fun x hx => ?_⟩
    rcases List.mem_append.mp hx with w | w
    · exact v2 x w
    · rw [List.mem_singleton.mp w]; exact hq
  · rw [if_neg z]
    exact ⟨by show c.2.length = min (c.1 + 1) 200; omega, v2⟩
theorem cpy_len {ms : List Mv} {fr : Nat} (h : ms.length ≤ 200) : ∀ k, (cpy ms fr k).length = min (ms.length + k) 200
  | 0 => by show ms.length = _; omega
  | k + 1 => by
    have ih := cpy_len (fr := fr) h k
    unfold cpy
    by_cases z : (cpy ms fr k).length < 200
    · rw [if_pos z, List.length_append, List.length_singleton]; omega
    · rw [if_neg z]; omega
theorem gM_app {l : List Mv} {x : Mv} {i : Nat} : gM (l ++ [x]) i = if i < l.length then gM l i else if i = l.length then x else dm := by
  unfold gM
  rw [List.getD_eq_getElem?_getD, List.getElem?_append]
  by_cases q : i < l.length
  · rw [if_pos q, if_pos q, List.getD_eq_getElem?_getD]
  · rw [if_neg q, if_neg q]
    by_cases z : i = l.length
    · rw [if_pos z, z, Nat.sub_self]; rfl
    · rw [if_neg z, List.getElem?_eq_none (by simp only [List.length_cons, List.length_nil]; omega)]; rfl
theorem cpy_get {ms : List Mv} {fr : Nat} (h : ms.length ≤ 200) (hf : fr < ms.length) : ∀ k x, fr ≤ x → x < (cpy ms fr k).length → gM (cpy ms fr k) x = gM ms (fr + (x - fr) % (ms.length - fr))
  | 0, x, h1, h2 => by
    have h2 : x < ms.length := h2
    show gM ms x = _
    rw [Nat.mod_eq_of_lt (by omega), show fr + (x - fr) = x by omega]
  | k + 1, x, h1, h2 => by
    have ih := cpy_get h hf k
    have hl := cpy_len (fr := fr) h k
    have hl1 := cpy_len (fr := fr) h (k + 1)
    have e : cpy ms fr (k + 1) = if (cpy ms fr k).length < 200 then cpy ms fr k ++ [gM (cpy ms fr k) (fr + k)] else cpy ms fr k := rfl
    rw [e] at h2 ⊢
    by_cases z : (cpy ms fr k).length < 200
    · rw [if_pos z] at h2 ⊢
      rw [List.length_append, List.length_singleton] at h2
      rw [gM_app]
      by_cases y : x < (cpy ms fr k).length
      · rw [if_pos y]; exact ih x h1 y
      · rw [if_neg y, if_pos (by omega), ih (fr + k) (by omega) (by omega)]
        have ex : x = ms.length + k := by omega
        congr 2
        rw [ex, show ms.length + k - fr = k + (ms.length - fr) by omega, Nat.add_mod_right, show fr + k - fr = k by omega]
    · rw [if_neg z] at h2 ⊢
      exact ih x h1 h2
theorem cpy_lo {ms : List Mv} {fr : Nat} (h : ms.length ≤ 200) : ∀ k x, x < ms.length → gM (cpy ms fr k) x = gM ms x
  | 0, _, _ => rfl
  | k + 1, x, hx => by
    have ih := cpy_lo (fr := fr) h k x hx
    have hl := cpy_len (fr := fr) h k
    unfold cpy
    by_cases z : (cpy ms fr k).length < 200
    · rw [if_pos z, gM_app, if_pos (by omega)]; exact ih
    · rw [if_neg z]; exact ih
theorem cpy_full {ms : List Mv} {fr : Nat} (h : ms.length = 200) : ∀ k, cpy ms fr k = ms
  | 0 => rfl
  | k + 1 => by
    unfold cpy
    rw [cpy_full h k, if_neg (by omega)]
theorem cpy_v {ms : List Mv} {fr : Nat} (h : ms.length ≤ 200) (hf : fr < ms.length) (hs : sgN m ms) : ∀ k, sgN m (cpy ms fr k)
  | 0 => hs
  | k + 1 => by
    have ih := cpy_v h hf hs k
    have hl := cpy_len (fr := fr) h k
    unfold cpy
    by_cases z : (cpy ms fr k).length < 200
    · rw [if_pos z]
      intro x hx
      rcases List.mem_append.mp hx with w | w
      · exact ih x w
      · rw [List.mem_singleton.mp w]
        exact ih _ (gM_mem (by omega))
    · rw [if_neg z]; exact ih
theorem cls1_v {c : Mk} {fr r : Nat} (v : MkV m c) (hf : fr ≤ c.1) : MkV m (cls1 c fr r) := by
  obtain ⟨v1, v2⟩ := v
  unfold cls1
  refine ⟨?_, ?_⟩
  · show (cpy c.2 fr ((c.1 - fr) * (r - 1))).length = min (c.1 + (c.1 - fr) * (r - 1)) 200
    rw [cpy_len (by omega)]
    omega
  · show sgN m (cpy c.2 fr ((c.1 - fr) * (r - 1)))
    by_cases z : fr < c.2.length
    · exact cpy_v (by omega) z v2 _
    · by_cases y : c.2.length = 200
      · rw [cpy_full y]; exact v2
      · have : c.1 - fr = 0 := by omega
        rw [this, Nat.zero_mul]; exact v2
/-- what a run of steps gives -/
theorem pS_ok (hm : 0 < m) {iE : Nat} (hE : ∀ i, kk i ≠ 0 → i < iE) : ∀ f o i c q, o ≤ 4 → i ≤ iE → MkV m c → pS kk nn m f o i c = some (.inr q) → i ≤ q.1 ∧ q.1 ≤ iE ∧ MkV m q.2 ∧ c.1 ≤ q.2.1 ∧ q.2.1 ≤ c.1 + (q.1 - i) * 9 ^ (4 - o)
  | 0, _, _, _, _, _, _, _, h => by unfold pS at h; cases h
  | f + 1, o, i, c, q, ho, hi, v, h => by
    have ih := pS_ok hm hE f
    have one : ∀ (x : Mv × Nat), kk (x.2 - 1) = 3 → i + 2 < x.2 → mvN m x.1 → pS kk nn m f o x.2 (psh1 c x.1) = some (.inr q) → i ≤ q.1 ∧ q.1 ≤ iE ∧ MkV m q.2 ∧ c.1 ≤ q.2.1 ∧ q.2.1 ≤ c.1 + (q.1 - i) * 9 ^ (4 - o) := fun x x1 x2 x3 hh => by
      have xe := hE (x.2 - 1) (by omega)
      obtain ⟨a1, a2, a3, a4, a5⟩ := ih o x.2 _ q ho (by omega) (psh1_v v x3) hh
      have e : (psh1 c x.1).1 = c.1 + 1 := rfl
      rw [e] at a4 a5
      have p1 : 1 ≤ 9 ^ (4 - o) := Nat.pow_pos (by decide)
      refine ⟨by omega, a2, a3, by omega, Nat.le_trans a5 ?_⟩
      have : (q.1 - x.2) * 9 ^ (4 - o) + 9 ^ (4 - o) ≤ (q.1 - i) * 9 ^ (4 - o) := by
        rw [← Nat.succ_mul]
        exact Nat.mul_le_mul_right _ (by omega)
      omega
    unfold pS at h
    by_cases k1 : kk i = 6 ∨ kk i = 9
    · rw [if_pos k1] at h
      cases hr : rdMv kk nn m (if kk i = 6 then 0 else 1) i with
      | inl e => rw [hr] at h; cases h
      | inr x =>
        rw [hr] at h
        obtain ⟨x1, x2, x3⟩ := rdMv_ok hm (by split <;> omega) hr
        exact one x x1 x2 x3 h
    · rw [if_neg k1] at h
      by_cases k2 : kk i = 10
      · rw [if_pos k2] at h
        cases hr : rdTn kk nn i with
        | inl e => rw [hr] at h; cases h
        | inr x =>
          rw [hr] at h
          obtain ⟨x1, x2, x3⟩ := rdTn_ok (m := m) hr
          exact one x x1 x2 x3 h
      · rw [if_neg k2] at h
        by_cases k3 : kk i = 11
        · rw [if_pos k3] at h
          by_cases k4 : o = 4
          · rw [if_pos k4] at h; cases h
          · rw [if_neg k4] at h
            cases hr : rdNum kk nn (i + 1) 1 9 with
            | inl e => rw [hr] at h; cases h
            | inr r =>
              rw [hr] at h
              obtain ⟨_, _, r1, r9⟩ := rdNum_ok hr
              dsimp only at h
              by_cases k5 : kk (i + 2) = 4
              · rw [if_pos k5] at h
                have xe := hE (i + 2) (by omega)
                cases hp : pS kk nn m f (o + 1) (i + 3) c with
                | none => rw [hp] at h; cases h
                | some z =>
                  rw [hp] at h
                  cases z with
                  | inl e => cases h
                  | inr y =>
                    dsimp only at h
                    obtain ⟨a1, a2, a3, a4, a5⟩ := ih (o + 1) (i + 3) c y (by omega) (by omega) v hp
                    by_cases k6 : kk y.1 = 5
                    · rw [if_pos k6] at h
                      have ye := hE y.1 (by omega)
                      obtain ⟨b1, b2, b3, b4, b5⟩ := ih o (y.1 + 1) _ q ho (by omega) (cls1_v a3 a4) h
                      have e : (cls1 y.2 c.1 r).1 = y.2.1 + (y.2.1 - c.1) * (r - 1) := rfl
                      rw [e] at b4 b5
                      have hx : (y.2.1 - c.1) * (r - 1) + (y.2.1 - c.1) ≤ (y.1 - (i + 3)) * 9 ^ (4 - o) := by
                        rw [← Nat.mul_succ]
                        have e9 : 9 ^ (4 - o) = 9 ^ (4 - (o + 1)) * 9 := by rw [← Nat.pow_succ, show (4 - (o + 1)).succ = 4 - o by omega]
                        rw [e9, ← Nat.mul_assoc]
                        exact Nat.mul_le_mul (by omega) (by omega)
                      refine ⟨by omega, b2, b3, by omega, Nat.le_trans b5 ?_⟩
                      have : (q.1 - (y.1 + 1)) * 9 ^ (4 - o) + (y.1 - (i + 3)) * 9 ^ (4 - o) ≤ (q.1 - i) * 9 ^ (4 - o) := by
                        rw [← Nat.add_mul]
                        exact Nat.mul_le_mul_right _ (by omega)
                      omega
                    · rw [if_neg k6] at h; cases h
              · rw [if_neg k5] at h; cases h
        · rw [if_neg k3] at h
          have := Sum.inr.inj (Option.some.inj h)
          subst this
          refine ⟨Nat.le_refl _, hi, v, Nat.le_refl _, Nat.le_add_right _ _⟩
/-- and that it gives something -/
theorem pS_ex (hm : 0 < m) {iE : Nat} (hE : ∀ i, kk i ≠ 0 → i < iE) : ∀ f o i c, o ≤ 4 → i ≤ iE → MkV m c → iE - i < f → ∃ r, pS kk nn m f o i c = some r
  | 0, _, _, _, _, _, _, h => by omega
  | f + 1, o, i, c, ho, hi, v, h => by
    have ih := pS_ex hm hE f
    unfold pS
    by_cases k1 : kk i = 6 ∨ kk i = 9
    · rw [if_pos k1]
      cases hr : rdMv kk nn m (if kk i = 6 then 0 else 1) i with
      | inl e => exact ⟨_, rfl⟩
      | inr x =>
        obtain ⟨x1, x2, x3⟩ := rdMv_ok hm (by split <;> omega) hr
        have xe := hE (x.2 - 1) (by omega)
        exact ih o x.2 _ ho (by omega) (psh1_v v x3) (by omega)
    · rw [if_neg k1]
      by_cases k2 : kk i = 10
      · rw [if_pos k2]
        cases hr : rdTn kk nn i with
        | inl e => exact ⟨_, rfl⟩
        | inr x =>
          obtain ⟨x1, x2, x3⟩ := rdTn_ok (m := m) hr
          have xe := hE (x.2 - 1) (by omega)
          exact ih o x.2 _ ho (by omega) (psh1_v v x3) (by omega)
      · rw [if_neg k2]
        by_cases k3 : kk i = 11
        · rw [if_pos k3]
          by_cases k4 : o = 4
          · rw [if_pos k4]; exact ⟨_, rfl⟩
          · rw [if_neg k4]
            cases hr : rdNum kk nn (i + 1) 1 9 with
            | inl e => exact ⟨_, rfl⟩
            | inr r =>
              dsimp only
              by_cases k5 : kk (i + 2) = 4
              · rw [if_pos k5]
                have xe := hE (i + 2) (by omega)
                obtain ⟨z, hp⟩ := ih (o + 1) (i + 3) c (by omega) (by omega) v (by omega)
                rw [hp]
                cases z with
                | inl e => exact ⟨_, rfl⟩
                | inr y =>
                  dsimp only
                  obtain ⟨a1, a2, a3, a4, a5⟩ := pS_ok hm hE f (o + 1) (i + 3) c y (by omega) (by omega) v hp
                  by_cases k6 : kk y.1 = 5
                  · rw [if_pos k6]
                    have ye := hE y.1 (by omega)
                    exact ih o (y.1 + 1) _ ho (by omega) (cls1_v a3 a4) (by omega)
                  · rw [if_neg k6]; exact ⟨_, rfl⟩
              · rw [if_neg k5]; exact ⟨_, rfl⟩
        · rw [if_neg k3]; exact ⟨_, rfl⟩
end Pure
