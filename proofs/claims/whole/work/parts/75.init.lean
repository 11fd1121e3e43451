-- what the making of an object does
theorem nx_new (h : Hp) (k n : Nat) : nxt (newO h k n) = nxt h + 1 := by
  show (h.2.2.2 ++ [(k, n)]).length = _
  rw [List.length_append]; rfl
theorem nxt_sI (h : Hp) (a k : Nat) (v : Int32) : nxt (sI h a k v) = nxt h := rfl
theorem nxt_sJ (h : Hp) (a k : Nat) (v : Int64) : nxt (sJ h a k v) = nxt h := rfl
theorem nxt_sR (h : Hp) (a k : Nat) (v : Option Nat) : nxt (sR h a k v) = nxt h := rfl
theorem shp_sI (h : Hp) (a k : Nat) (v : Int32) (b : Nat) : shp (sI h a k v) b = shp h b := rfl
theorem shp_sJ (h : Hp) (a k : Nat) (v : Int64) (b : Nat) : shp (sJ h a k v) b = shp h b := rfl
theorem shp_sR (h : Hp) (a k : Nat) (v : Option Nat) (b : Nat) : shp (sR h a k v) b = shp h b := rfl
theorem getD_snoc (l : List (Nat × Nat)) (x : Nat × Nat) (b : Nat) : (l ++ [x]).getD b (99, 0) = if b = l.length then x else l.getD b (99, 0) := by
  rw [List.getD_eq_getElem?_getD, List.getD_eq_getElem?_getD, List.getElem?_append]
  by_cases z : b < l.length
  · rw [if_pos z, if_neg (by omega)]
  · rw [if_neg z]
    by_cases y : b = l.length
    · rw [if_pos y, y, Nat.sub_self]; rfl
    · rw [if_neg y, List.getElem?_eq_none (show [x].length ≤ b - l.length by show 1 ≤ _; omega), List.getElem?_eq_none (show l.length ≤ b by omega)]
theorem sh_new (h : Hp) (k n b : Nat) : shp (newO h k n) b = if b = nxt h then (k, n) else shp h b := getD_snoc _ _ _
theorem gI_new (h : Hp) (k n b j : Nat) : gI (newO h k n) b j = if b = nxt h then 0 else gI h b j := rfl
theorem gJ_new (h : Hp) (k n b j : Nat) : gJ (newO h k n) b j = if b = nxt h then 0 else gJ h b j := rfl
theorem gR_new (h : Hp) (k n b j : Nat) : gR (newO h k n) b j = if b = nxt h then none else gR h b j := rfl
theorem gI_sR (h : Hp) (a k : Nat) (v : Option Nat) (b j : Nat) : gI (sR h a k v) b j = gI h b j := rfl
theorem gJ_sR (h : Hp) (a k : Nat) (v : Option Nat) (b j : Nat) : gJ (sR h a k v) b j = gJ h b j := rfl
theorem gR_sR (h : Hp) (a k : Nat) (v : Option Nat) (b j : Nat) : gR (sR h a k v) b j = if b = a ∧ j = k then v else gR h b j := rfl
/-- h' is h with the rows s more, and all below a as it was -/
def Nw (h h' : Hp) (a : Nat) (s : List (Nat × Nat)) : Prop := h'.2.2.2 = h.2.2.2 ++ s ∧ (∀ b j, b < a → gI h' b j = gI h b j) ∧ (∀ b j, b < a → gJ h' b j = gJ h b j) ∧ (∀ b j, b < a → gR h' b j = gR h b j)
theorem Nw.trans {h h1 h2 : Hp} {a a' : Nat} {s s' : List (Nat × Nat)} (x : Nw h h1 a s) (y : Nw h1 h2 a' s') (l : a ≤ a') : Nw h h2 a (s ++ s') := ⟨by rw [y.1, x.1, List.append_assoc], fun b j hb => (y.2.1 b j (by omega)).trans (x.2.1 b j hb), fun b j hb => (y.2.2.1 b j (by omega)).trans (x.2.2.1 b j hb), fun b j hb => (y.2.2.2 b j (by omega)).trans (x.2.2.2 b j hb)⟩
theorem Nw.nx {h h' : Hp} {a : Nat} {s : List (Nat × Nat)} (x : Nw h h' a s) : nxt h' = nxt h + s.length := by
  unfold nxt; rw [x.1, List.length_append]
theorem Nw.sh {h h' : Hp} {a : Nat} {s : List (Nat × Nat)} (x : Nw h h' a s) {b : Nat} (hb : b < nxt h) : shp h' b = shp h b := by
  unfold shp
  rw [x.1, List.getD_eq_getElem?_getD, List.getD_eq_getElem?_getD, List.getElem?_append_left hb]
section Ini
variable {d a : Nat} {h : Hp} {Q : Option Value → Hp → Prop}
theorem k_X7 (hk : shp h a = (15, 2)) (hz : nxt h = a + 1) (h9 : a < 800000) (K : ∀ h' : Hp, Nw h h' a [(1, 200)] → IsX7 h'.2.2 a → gI h' a 0 = 0 → Q none h') : Call d MX7_init [.ref a] h Q := by
  show At d MX7_init 0 [.ref a] [] h Q
  refine At_aload_n (pc' := 1) iX7_init_0 rfl rfl ?_
  refine At_oinit (pc' := 4) iX7_init_1 rfl m_7_3 (Nat.le_of_ble_eq_true rfl) ?_
  refine At_aload_n (pc' := 5) iX7_init_4 rfl rfl ?_
  refine At_iconst (v := nI 0) (pc' := 6) iX7_init_5 rfl (by decide) ?_
  refine At_putI (pc' := 9) iX7_init_6 rfl f_7_9 (by simp [Nat.add_assoc, sh_new, shp_sI, shp_sJ, shp_sR, nx_new, nxt_sI, nxt_sJ, nxt_sR, hz, hk]) (Or.inr ⟨rfl, rfl⟩) (by decide) ?_
  refine At_aload_n (pc' := 10) iX7_init_9 rfl rfl ?_
  refine At_sipush (v := nI 200) (pc' := 13) iX7_init_10 rfl (by decide) ?_
  refine At_newI (N := 200) (z := a + 1) (pc' := 15) iX7_init_13 rfl (by decide) (by decide) (by decide) (by (try simp only [nx_new, nxt_sI, nxt_sJ, nxt_sR]); omega) (by omega) ?_
  refine At_putR (pc' := 18) iX7_init_15 rfl f_7_15 (by simp [Nat.add_assoc, sh_new, shp_sI, shp_sJ, shp_sR, nx_new, nxt_sI, nxt_sJ, nxt_sR, hz, hk]) (Or.inr ⟨rfl, rfl⟩) (by decide) (by (try simp only [nx_new, nxt_sI, nxt_sJ, nxt_sR]); omega) ?_
  refine At_retV iX7_init_18 rfl ?_
  refine K _ ⟨rfl, fun b j hb => ?_, fun b j hb => ?_, fun b j hb => ?_⟩ ⟨?_, ?_, ?_⟩ ?_
  · simp [Nat.add_assoc, gI_new, gI_sI, gI_sR, nxt_sI, hz, show ¬ b = a + 1 by omega, show ¬ b = a by omega]
  · simp [Nat.add_assoc, gJ_new, gJ_sI, gJ_sR, nxt_sI, hz, show ¬ b = a + 1 by omega]
  · simp [Nat.add_assoc, gR_new, gR_sI, gR_sR, nxt_sI, hz, show ¬ b = a + 1 by omega, show ¬ b = a by omega]
  · show shp _ a = _
    simp [Nat.add_assoc, sh_new, shp_sI, shp_sR, nxt_sI, hz, hk]
  · show shp _ (a + 1) = _
    simp [Nat.add_assoc, sh_new, shp_sI, shp_sR, nxt_sI, hz]
  · show gR _ a 1 = _
    simp [Nat.add_assoc, gR_sR]
  · simp [Nat.add_assoc, gI_new, gI_sI, gI_sR, nxt_sI, hz, nI_0]
theorem k_X1 (hk : shp h a = (11, 6)) (hz : nxt h = a + 1) (h9 : a < 800000) (K : ∀ h' : Hp, Nw h h' a [(1, 16), (1, 256)] → IsX1 h'.2.2 a → gJ h' a 0 = r_X6_home (nI 8) → gI h' a 1 = 0 → gI h' a 2 = 0 → gI h' a 3 = 0 → (∀ j, gI h' (a + 1) j = 0) → (∀ j, gI h' (a + 2) j = 0) → Q none h') : Call (d + 2) MX1_init [.ref a] h Q := by
  show At (d + 2) MX1_init 0 [.ref a] [] h Q
  refine At_aload_n (pc' := 1) iX1_init_0 rfl rfl ?_
  refine At_oinit (pc' := 4) iX1_init_1 rfl m_1_3 (Nat.le_of_ble_eq_true rfl) ?_
  refine At_aload_n (pc' := 5) iX1_init_4 rfl rfl ?_
  refine At_bipush (v := nI 8) (pc' := 7) iX1_init_5 rfl (by decide) ?_
  refine At_stat (pc' := 10) iX1_init_7 rfl m_1_9 rfl rfl (Nat.le_of_ble_eq_true rfl) (Nat.le_of_ble_eq_true rfl) (Nat.le_of_ble_eq_true rfl) ?_
  refine c_X6_home (d := d) (h := h) (nI 8) (show At (d + 2) MX1_init 10 [.ref a] [.long (r_X6_home (nI 8)), .ref a] h Q from ?_)
  refine At_putJ (pc' := 13) iX1_init_10 rfl f_1_15 (by simp [Nat.add_assoc, sh_new, shp_sI, shp_sJ, shp_sR, nx_new, nxt_sI, nxt_sJ, nxt_sR, hz, hk]) (Or.inr ⟨rfl, rfl⟩) (by decide) ?_
  refine At_aload_n (pc' := 14) iX1_init_13 rfl rfl ?_
  refine At_iconst (v := nI 0) (pc' := 15) iX1_init_14 rfl (by decide) ?_
  refine At_putI (pc' := 18) iX1_init_15 rfl f_1_21 (by simp [Nat.add_assoc, sh_new, shp_sI, shp_sJ, shp_sR, nx_new, nxt_sI, nxt_sJ, nxt_sR, hz, hk]) (Or.inr ⟨rfl, rfl⟩) (by decide) ?_
  refine At_aload_n (pc' := 19) iX1_init_18 rfl rfl ?_
  refine At_iconst (v := nI 0) (pc' := 20) iX1_init_19 rfl (by decide) ?_
  refine At_putI (pc' := 23) iX1_init_20 rfl f_1_25 (by simp [Nat.add_assoc, sh_new, shp_sI, shp_sJ, shp_sR, nx_new, nxt_sI, nxt_sJ, nxt_sR, hz, hk]) (Or.inr ⟨rfl, rfl⟩) (by decide) ?_
  refine At_aload_n (pc' := 24) iX1_init_23 rfl rfl ?_
  refine At_iconst (v := nI 0) (pc' := 25) iX1_init_24 rfl (by decide) ?_
  refine At_putI (pc' := 28) iX1_init_25 rfl f_1_28 (by simp [Nat.add_assoc, sh_new, shp_sI, shp_sJ, shp_sR, nx_new, nxt_sI, nxt_sJ, nxt_sR, hz, hk]) (Or.inr ⟨rfl, rfl⟩) (by decide) ?_
  refine At_aload_n (pc' := 29) iX1_init_28 rfl rfl ?_
  refine At_bipush (v := nI 16) (pc' := 31) iX1_init_29 rfl (by decide) ?_
  refine At_newI (N := 16) (z := a + 1) (pc' := 33) iX1_init_31 rfl (by decide) (by decide) (by decide) (by (try simp only [nx_new, nxt_sI, nxt_sJ, nxt_sR]); omega) (by omega) ?_
  refine At_putR (pc' := 36) iX1_init_33 rfl f_1_31 (by simp [Nat.add_assoc, sh_new, shp_sI, shp_sJ, shp_sR, nx_new, nxt_sI, nxt_sJ, nxt_sR, hz, hk]) (Or.inr ⟨rfl, rfl⟩) (by decide) (by (try simp only [nx_new, nxt_sI, nxt_sJ, nxt_sR]); omega) ?_
  refine At_aload_n (pc' := 37) iX1_init_36 rfl rfl ?_
  refine At_sipush (v := nI 256) (pc' := 40) iX1_init_37 rfl (by decide) ?_
  refine At_newI (N := 256) (z := a + 2) (pc' := 42) iX1_init_40 rfl (by decide) (by decide) (by decide) (by (try simp only [nx_new, nxt_sI, nxt_sJ, nxt_sR]); omega) (by omega) ?_
  refine At_putR (pc' := 45) iX1_init_42 rfl f_1_35 (by simp [Nat.add_assoc, sh_new, shp_sI, shp_sJ, shp_sR, nx_new, nxt_sI, nxt_sJ, nxt_sR, hz, hk]) (Or.inr ⟨rfl, rfl⟩) (by decide) (by (try simp only [nx_new, nxt_sI, nxt_sJ, nxt_sR]); omega) ?_
  refine At_retV iX1_init_45 rfl ?_
  refine K _ ⟨?_, fun b j hb => ?_, fun b j hb => ?_, fun b j hb => ?_⟩ ⟨?_, ?_, ?_, ?_, ?_⟩ ?_ ?_ ?_ ?_ (fun j => ?_) (fun j => ?_)
  · exact List.append_assoc _ _ _
  · simp [Nat.add_assoc, gI_new, gI_sI, gI_sJ, gI_sR, nx_new, nxt_sI, nxt_sJ, nxt_sR, hz, show ¬ b = a + 1 by omega, show ¬ b = a by omega, show ¬ b = a + 2 by omega]
  · simp [Nat.add_assoc, gJ_new, gJ_sI, gJ_sR, gJ_sJ, nx_new, nxt_sI, nxt_sJ, nxt_sR, hz, show ¬ b = a + 1 by omega, show ¬ b = a by omega, show ¬ b = a + 2 by omega]
  · simp [Nat.add_assoc, gR_new, gR_sI, gR_sJ, gR_sR, nx_new, nxt_sI, nxt_sJ, nxt_sR, hz, show ¬ b = a + 1 by omega, show ¬ b = a by omega, show ¬ b = a + 2 by omega]
  · show shp _ a = _
    simp [Nat.add_assoc, sh_new, shp_sI, shp_sJ, shp_sR, nx_new, nxt_sI, nxt_sJ, nxt_sR, hz, hk]
  · show shp _ (a + 1) = _
    simp [Nat.add_assoc, sh_new, shp_sI, shp_sJ, shp_sR, nx_new, nxt_sI, nxt_sJ, nxt_sR, hz, hk]
  · show shp _ (a + 2) = _
    simp [Nat.add_assoc, sh_new, shp_sI, shp_sJ, shp_sR, nx_new, nxt_sI, nxt_sJ, nxt_sR, hz, hk]
  · show gR _ a 4 = _
    simp [Nat.add_assoc, gR_sR, gR_new, nx_new, nxt_sI, nxt_sJ, nxt_sR, hz]
  · show gR _ a 5 = _
    simp [Nat.add_assoc, gR_sR]
  · simp [Nat.add_assoc, gJ_new, gJ_sI, gJ_sR, gJ_sJ, nx_new, nxt_sI, nxt_sJ, nxt_sR, hz]
  · simp [Nat.add_assoc, gI_new, gI_sI, gI_sJ, gI_sR, nx_new, nxt_sI, nxt_sJ, nxt_sR, hz, nI_0]
  · simp [Nat.add_assoc, gI_new, gI_sI, gI_sJ, gI_sR, nx_new, nxt_sI, nxt_sJ, nxt_sR, hz, nI_0]
  · simp [Nat.add_assoc, gI_new, gI_sI, gI_sJ, gI_sR, nx_new, nxt_sI, nxt_sJ, nxt_sR, hz, nI_0]
  · simp [Nat.add_assoc, gI_new, gI_sI, gI_sJ, gI_sR, nx_new, nxt_sI, nxt_sJ, nxt_sR, hz]
  · simp [Nat.add_assoc, gI_new, gI_sI, gI_sJ, gI_sR, nx_new, nxt_sI, nxt_sJ, nxt_sR, hz]
end Ini
