-- numbers, rows, counting loops
theorem irem_nI {a d : Nat} (ha : a < 2 ^ 31) (h0 : 0 < d) (hd : d < 2 ^ 31) : irem (nI a) (nI d) = nI (a % d) := pk_rem ha h0 hd
theorem inB_iff {j n : Nat} (hj : j < 2 ^ 31) : (inB (nI j) n = true) ↔ j < n := by
  unfold inB
  rw [decide_eq_true_iff, nI_clamp hj]
  constructor
  · intro h
    exact Nat.not_le.mp (fun q => h (Or.inr q))
  · intro h q
    rcases q with q | q
    · exact nI_pos hj q
    · omega
theorem nI_lt0 {n : Nat} (h : n < 2 ^ 31) : (nI n < 0) ↔ False := iff_false_intro (nI_pos h)
theorem nI_eq0 {n : Nat} (h : n < 2 ^ 31) : (nI n = 0) ↔ n = 0 := by
  rw [← nI_0]
  exact nI_eq h (by decide)
theorem nI_gt0 {n : Nat} (h : n < 2 ^ 31) : (0 < nI n) ↔ 0 < n := by
  rw [← nI_0]
  exact nI_ltI (by decide) h
theorem nI_inj {a b : Nat} (ha : a < 2 ^ 31) (hb : b < 2 ^ 31) (h : nI a = nI b) : a = b := (nI_eq ha hb).mp h
theorem nI_m1 (n : Nat) (h : n < 2 ^ 31) : (nI n = (-1)) ↔ False := by
  refine iff_false_intro (fun q => nI_pos h ?_)
  rw [q]
  decide
theorem gI_sI_at (h : Hp) (a k j : Nat) (v : Int32) : gI (sI h a k v) a j = if j = k then v else gI h a j := by
  show (if a = a ∧ j = k then v else h.1 a j) = _
  by_cases q : j = k
  · rw [if_pos ⟨rfl, q⟩, if_pos q]
  · rw [if_neg (fun z => q z.2), if_neg q]; rfl
theorem gI_sI_ne {h : Hp} {a b k j : Nat} {v : Int32} (hb : b ≠ a) : gI (sI h a k v) b j = gI h b j := by
  show (if b = a ∧ j = k then v else h.1 b j) = _
  rw [if_neg (fun z => hb z.1)]; rfl
theorem gI_sI (h : Hp) (a k : Nat) (v : Int32) (b j : Nat) : gI (sI h a k v) b j = if b = a ∧ j = k then v else gI h b j := rfl
theorem gJ_sI (h : Hp) (a k : Nat) (v : Int32) (b j : Nat) : gJ (sI h a k v) b j = gJ h b j := rfl
theorem gR_sI (h : Hp) (a k : Nat) (v : Int32) (b j : Nat) : gR (sI h a k v) b j = gR h b j := rfl
theorem gI_sJ (h : Hp) (a k : Nat) (v : Int64) (b j : Nat) : gI (sJ h a k v) b j = gI h b j := rfl
theorem gR_sJ (h : Hp) (a k : Nat) (v : Int64) (b j : Nat) : gR (sJ h a k v) b j = gR h b j := rfl
theorem gJ_sJ (h : Hp) (a k : Nat) (v : Int64) (b j : Nat) : gJ (sJ h a k v) b j = if b = a ∧ j = k then v else gJ h b j := rfl
theorem gJ_sJ_at (h : Hp) (a k j : Nat) (v : Int64) : gJ (sJ h a k v) a j = if j = k then v else gJ h a j := by
  show (if a = a ∧ j = k then v else h.2.1 a j) = _
  by_cases q : j = k
  · rw [if_pos ⟨rfl, q⟩, if_pos q]
  · rw [if_neg (fun z => q z.2), if_neg q]; rfl
theorem gJ_sJ_ne {h : Hp} {a b k j : Nat} {v : Int64} (hb : b ≠ a) : gJ (sJ h a k v) b j = gJ h b j := by
  show (if b = a ∧ j = k then v else h.2.1 b j) = _
  rw [if_neg (fun z => hb z.1)]; rfl
theorem sI_2 (h : Hp) (a k : Nat) (v : Int32) : (sI h a k v).2 = h.2 := rfl
theorem cpI_2 (h : Hp) (a sp b dp n : Nat) : (cpI h a sp b dp n).2 = h.2 := rfl
theorem gI_cpI (h : Hp) (a sp b dp n x j : Nat) : gI (cpI h a sp b dp n) x j = if x = b ∧ dp ≤ j ∧ j < dp + n then gI h a (sp + (j - dp)) else gI h x j := rfl
theorem gJ_cpI (h : Hp) (a sp b dp n x j : Nat) : gJ (cpI h a sp b dp n) x j = gJ h x j := rfl
theorem gR_cpI (h : Hp) (a sp b dp n x j : Nat) : gR (cpI h a sp b dp n) x j = gR h x j := rfl
/-- a counting loop: from i up to n -/
theorem upto {α : Type} (n : Nat) (P G : Nat → α → Prop) (step : ∀ i s, i < n → P i s → (∀ s', P (i + 1) s' → G (i + 1) s') → G i s) (fin : ∀ s, P n s → G n s) : ∀ i s, i ≤ n → P i s → G i s := by
  have key : ∀ m i s, m + i = n → P i s → G i s := by
    intro m
    induction m with
    | zero =>
      intro i s hi hp
      have : i = n := by omega
      subst this
      exact fin s hp
    | succ m ih =>
      intro i s hi hp
      exact step i s (by omega) hp (fun s' hp' => ih (i + 1) s' (by omega) hp')
  intro i s hi hp
  exact key (n - i) i s (by omega) hp
theorem e2T {h h' : Hp} {T : HT} (e : h'.2 = h.2) (eT : h.2.2 = T) : h'.2.2 = T := by rw [e]; exact eT
theorem gJ_e2 {h h' : Hp} (e : h'.2 = h.2) (a k : Nat) : gJ h' a k = gJ h a k := by unfold gJ; rw [e]
theorem gR_e2 {h h' : Hp} (e : h'.2 = h.2) (a k : Nat) : gR h' a k = gR h a k := by unfold gR; rw [e]
-- first of the model: where the strands sit
section M1
variable {d : Nat} {T : HT} {h : Hp} {Q : Option Value → Hp → Prop}
theorem s_sitsNow (hL : Lay T) (eT : h.2.2 = T) {n : Nat} (hn : gI h 60 0 = nI n) (h16 : n ≤ 16) (k : ∀ h' : Hp, h'.2 = h.2 → (∀ b j, gI h' b j = if b = 65 ∧ j < n then gI h 60 (42 + j) else gI h b j) → Q none h') : Call (d + 0) MX11_sitsNow [.ref 59] h Q := by
  refine b_X11_sitsNow hL eT (upto n (fun i h1 => h1.2 = h.2 ∧ ∀ b j, gI h1 b j = if b = 65 ∧ j < i then gI h 60 (42 + j) else gI h b j) (fun i h1 => L_X11_sitsNow_2 d (nI i) h1 Q) ?_ ?_ 0 h (Nat.zero_le _) ⟨rfl, fun b j => by simp⟩)
  · rintro i h1 hi ⟨e2, hg⟩ ih
    have e0 : gI h1 60 0 = nI n := by rw [hg]; simpa using hn
    refine b_X11_sitsNow_2 hL (e2T e2 eT) _ ⟨fun _ => ?_, fun c => ?_⟩
    · simp (disch := omega) only [nI_add, pk_mul, pk_sub, nI_clamp, nI_ltI, nI_leI, nI_eq, irem_nI, inB_iff, nI_lt0, nI_eq0, nI_gt0]
      refine ⟨by omega, by omega, ih _ ⟨e2, fun b j => ?_⟩⟩
      rw [gI_sI, hg, hg]
      by_cases hb : b = 65
      · subst hb
        by_cases hj : j = i
        · subst hj; simp
        · simp [hj]
          by_cases hlt : j < i
          · simp [hlt, show j < i + 1 by omega]
          · simp [hlt, show ¬ j < i + 1 by omega]
      · simp [hb]
    · rw [e0] at c
      exact absurd (nI_lt hi (by omega)) c
  · rintro h1 ⟨e2, hg⟩
    have e0 : gI h1 60 0 = nI n := by rw [hg]; simpa using hn
    refine b_X11_sitsNow_2 hL (e2T e2 eT) _ ⟨fun c => ?_, fun _ => k h1 e2 hg⟩
    rw [e0] at c
    exact absurd c (nI_nlt (Nat.le_refl _) (by omega))
end M1
