section Start
variable {L : Nat} {xs : Nat → Int32} {h : Hp} {Q : Option Value → Hp → Prop}
def R1a (h : Hp) : Prop := gR h 1 0 = some 2 ∧ gR h 1 1 = some 12 ∧ gR h 1 2 = some 28 ∧ gR h 1 3 = some 48 ∧ gR h 1 4 = some 50 ∧ gR h 1 5 = some 53 ∧ gR h 1 6 = some 56 ∧ gR h 1 7 = none
theorem kd_start (e : h.2.2.2 = (0, L) :: shpTab.tail) : ∀ a, 0 < a → a < 77 → kd h.2.2 a = shpTab.getD a (0, 0) := by
  intro a a0 a7
  obtain ⟨b, rfl⟩ : ∃ b, a = b + 1 := ⟨a - 1, by omega⟩
  have k : ∀ b, b < 76 → shpTab.tail.getD b (99, 0) = shpTab.getD (b + 1) (0, 0) := by decide
  unfold kd
  rw [e, List.getD_cons_succ]
  exact k b (by omega)
theorem lay_start (e : h.2.2.2 = (0, L) :: shpTab.tail) (d : D10 h) (r1 : R1a h) (r11 : R11 h) : Lay h.2.2 := by
  refine ⟨kd_start e, ?_⟩
  unfold refTab
  refine List.forall_mem_cons.mpr ⟨r1.1, ?_⟩
  refine List.forall_mem_cons.mpr ⟨r1.2.1, ?_⟩
  refine List.forall_mem_cons.mpr ⟨r1.2.2.1, ?_⟩
  refine List.forall_mem_cons.mpr ⟨r1.2.2.2.1, ?_⟩
  refine List.forall_mem_cons.mpr ⟨r1.2.2.2.2.1, ?_⟩
  refine List.forall_mem_cons.mpr ⟨r1.2.2.2.2.2.1, ?_⟩
  refine List.forall_mem_cons.mpr ⟨r1.2.2.2.2.2.2.1, ?_⟩
  refine List.forall_mem_cons.mpr ⟨d.1.2.2.1, ?_⟩
  refine List.forall_mem_cons.mpr ⟨d.1.2.2.2.1, ?_⟩
  refine List.forall_mem_cons.mpr ⟨d.1.2.2.2.2.1, ?_⟩
  refine List.forall_mem_cons.mpr ⟨d.1.2.2.2.2.2.1, ?_⟩
  refine List.forall_mem_cons.mpr ⟨d.1.2.2.2.2.2.2.2.1, ?_⟩
  refine List.forall_mem_cons.mpr ⟨d.1.2.2.2.2.2.2.2.2.1, ?_⟩
  refine List.forall_mem_cons.mpr ⟨d.1.2.2.2.2.2.2.2.2.2.1, ?_⟩
  refine List.forall_mem_cons.mpr ⟨d.1.2.2.2.2.2.2.2.2.2.2.1, ?_⟩
  refine List.forall_mem_cons.mpr ⟨d.1.2.2.2.2.2.2.2.2.2.2.2, ?_⟩
  refine List.forall_mem_cons.mpr ⟨d.2.1.2.2.2.2.2.1, ?_⟩
  refine List.forall_mem_cons.mpr ⟨d.2.1.2.2.2.2.2.2.1, ?_⟩
  refine List.forall_mem_cons.mpr ⟨d.2.1.2.2.2.2.2.2.2.1, ?_⟩
  refine List.forall_mem_cons.mpr ⟨d.2.1.2.2.2.2.2.2.2.2.1, ?_⟩
  refine List.forall_mem_cons.mpr ⟨d.2.1.2.2.2.2.2.2.2.2.2.1, ?_⟩
  refine List.forall_mem_cons.mpr ⟨(d.2.1.2.2.2.2.2.2.2.2.2.2.2 0 (by decide)).1, ?_⟩
  refine List.forall_mem_cons.mpr ⟨(d.2.1.2.2.2.2.2.2.2.2.2.2.2 1 (by decide)).1, ?_⟩
  refine List.forall_mem_cons.mpr ⟨(d.2.1.2.2.2.2.2.2.2.2.2.2.2 2 (by decide)).1, ?_⟩
  refine List.forall_mem_cons.mpr ⟨(d.2.1.2.2.2.2.2.2.2.2.2.2.2 3 (by decide)).1, ?_⟩
  refine List.forall_mem_cons.mpr ⟨d.2.1.2.2.2.2.2.2.2.2.2.2.1.2.2.2.1, ?_⟩
  refine List.forall_mem_cons.mpr ⟨d.2.1.2.2.2.2.2.2.2.2.2.2.1.2.2.2.2, ?_⟩
  refine List.forall_mem_cons.mpr ⟨(d.2.1.2.2.2.2.2.2.2.2.2.2.2 0 (by decide)).2.2.2, ?_⟩
  refine List.forall_mem_cons.mpr ⟨(d.2.1.2.2.2.2.2.2.2.2.2.2.2 1 (by decide)).2.2.2, ?_⟩
  refine List.forall_mem_cons.mpr ⟨(d.2.1.2.2.2.2.2.2.2.2.2.2.2 2 (by decide)).2.2.2, ?_⟩
  refine List.forall_mem_cons.mpr ⟨(d.2.1.2.2.2.2.2.2.2.2.2.2.2 3 (by decide)).2.2.2, ?_⟩
  refine List.forall_mem_cons.mpr ⟨d.2.2.2.1.2.2.1, ?_⟩
  refine List.forall_mem_cons.mpr ⟨(d.2.2.2.1.2.2.2 0 (by decide)).1, ?_⟩
  refine List.forall_mem_cons.mpr ⟨(d.2.2.2.1.2.2.2 1 (by decide)).1, ?_⟩
  refine List.forall_mem_cons.mpr ⟨(d.2.2.2.1.2.2.2 2 (by decide)).1, ?_⟩
  refine List.forall_mem_cons.mpr ⟨(d.2.2.2.1.2.2.2 3 (by decide)).1, ?_⟩
  refine List.forall_mem_cons.mpr ⟨(d.2.2.2.1.2.2.2 4 (by decide)).1, ?_⟩
  refine List.forall_mem_cons.mpr ⟨(d.2.2.2.1.2.2.2 5 (by decide)).1, ?_⟩
  refine List.forall_mem_cons.mpr ⟨(d.2.2.2.1.2.2.2 0 (by decide)).2.2.2.2.1, ?_⟩
  refine List.forall_mem_cons.mpr ⟨(d.2.2.2.1.2.2.2 0 (by decide)).2.2.2.2.2, ?_⟩
  refine List.forall_mem_cons.mpr ⟨(d.2.2.2.1.2.2.2 1 (by decide)).2.2.2.2.1, ?_⟩
  refine List.forall_mem_cons.mpr ⟨(d.2.2.2.1.2.2.2 1 (by decide)).2.2.2.2.2, ?_⟩
  refine List.forall_mem_cons.mpr ⟨(d.2.2.2.1.2.2.2 2 (by decide)).2.2.2.2.1, ?_⟩
  refine List.forall_mem_cons.mpr ⟨(d.2.2.2.1.2.2.2 2 (by decide)).2.2.2.2.2, ?_⟩
  refine List.forall_mem_cons.mpr ⟨(d.2.2.2.1.2.2.2 3 (by decide)).2.2.2.2.1, ?_⟩
  refine List.forall_mem_cons.mpr ⟨(d.2.2.2.1.2.2.2 3 (by decide)).2.2.2.2.2, ?_⟩
  refine List.forall_mem_cons.mpr ⟨(d.2.2.2.1.2.2.2 4 (by decide)).2.2.2.2.1, ?_⟩
  refine List.forall_mem_cons.mpr ⟨(d.2.2.2.1.2.2.2 4 (by decide)).2.2.2.2.2, ?_⟩
  refine List.forall_mem_cons.mpr ⟨(d.2.2.2.1.2.2.2 5 (by decide)).2.2.2.2.1, ?_⟩
  refine List.forall_mem_cons.mpr ⟨(d.2.2.2.1.2.2.2 5 (by decide)).2.2.2.2.2, ?_⟩
  refine List.forall_mem_cons.mpr ⟨d.2.2.2.2.1.1, ?_⟩
  refine List.forall_mem_cons.mpr ⟨d.2.2.2.2.2.1.1, ?_⟩
  refine List.forall_mem_cons.mpr ⟨d.2.2.2.2.2.1.2, ?_⟩
  refine List.forall_mem_cons.mpr ⟨d.2.2.2.2.2.2.1.2.2.2.1, ?_⟩
  refine List.forall_mem_cons.mpr ⟨d.2.2.2.2.2.2.1.2.2.2.2, ?_⟩
  refine List.forall_mem_cons.mpr ⟨d.2.2.2.2.2.2.2.2.2.2.1, ?_⟩
  refine List.forall_mem_cons.mpr ⟨d.2.2.2.2.2.2.2.2.2.2.2, ?_⟩
  refine List.forall_mem_cons.mpr ⟨r11.1, ?_⟩
  refine List.forall_mem_cons.mpr ⟨r11.2.1, ?_⟩
  refine List.forall_mem_cons.mpr ⟨r11.2.2.1, ?_⟩
  refine List.forall_mem_cons.mpr ⟨r11.2.2.2.1, ?_⟩
  refine List.forall_mem_cons.mpr ⟨r11.2.2.2.2.1, ?_⟩
  refine List.forall_mem_cons.mpr ⟨r11.2.2.2.2.2.1, ?_⟩
  refine List.forall_mem_cons.mpr ⟨r11.2.2.2.2.2.2.1, ?_⟩
  refine List.forall_mem_cons.mpr ⟨r11.2.2.2.2.2.2.2.1, ?_⟩
  refine List.forall_mem_cons.mpr ⟨r11.2.2.2.2.2.2.2.2.1, ?_⟩
  refine List.forall_mem_cons.mpr ⟨r11.2.2.2.2.2.2.2.2.2.1, ?_⟩
  refine List.forall_mem_cons.mpr ⟨r11.2.2.2.2.2.2.2.2.2.2.1, ?_⟩
  refine List.forall_mem_cons.mpr ⟨r11.2.2.2.2.2.2.2.2.2.2.2.1, ?_⟩
  refine List.forall_mem_cons.mpr ⟨r11.2.2.2.2.2.2.2.2.2.2.2.2.1, ?_⟩
  refine List.forall_mem_cons.mpr ⟨r11.2.2.2.2.2.2.2.2.2.2.2.2.2.1, ?_⟩
  refine List.forall_mem_cons.mpr ⟨r11.2.2.2.2.2.2.2.2.2.2.2.2.2.2.1, ?_⟩
  refine List.forall_mem_cons.mpr ⟨r11.2.2.2.2.2.2.2.2.2.2.2.2.2.2.2.1, ?_⟩
  refine List.forall_mem_cons.mpr ⟨r11.2.2.2.2.2.2.2.2.2.2.2.2.2.2.2.2, ?_⟩
  intro e he
  exact absurd he List.not_mem_nil
theorem D10.sm {h' : Hp} (x : D10 h) (s : Sm 2 59 h h') : D10 h' := by
  obtain ⟨x0, x1, x2, ⟨y0, y1, y2, y3⟩, ⟨l0, l1⟩, ⟨b0, b1⟩, c3, c6⟩ := x
  refine ⟨x0.tr (s.le (by decide) (by decide)), x1.sm (s.le (by decide) (by decide)), x2.tr (fun b j u v _ => (s b (by omega) (by omega)).1 j) (fun b j u v => (s b (by omega) (by omega)).2.1 j), ⟨?_, ?_, ?_, fun k hk => ⟨?_, ?_⟩⟩, ⟨?_, fun j => ?_⟩, ⟨?_, ?_⟩, c3.sm (s.le (by decide) (by decide)), c6.sm (s.le (by decide) (by decide))⟩
  · rw [(s 28 (by decide) (by decide)).1]; exact y0
  · rw [(s 28 (by decide) (by decide)).1]; exact y1
  · rw [(s 28 (by decide) (by decide)).2.2.1]; exact y2
  · rw [(s 29 (by decide) (by decide)).2.2.1]; exact (y3 k hk).1
  · exact (y3 k hk).2.sm (s.le (by omega) (by omega))
  · rw [(s 48 (by decide) (by decide)).2.2.1]; exact l0
  · rw [(s 49 (by decide) (by decide)).1]; exact l1 j
  · rw [(s 50 (by decide) (by decide)).2.2.1]; exact b0
  · rw [(s 50 (by decide) (by decide)).2.2.1]; exact b1
theorem tot_start (e : h.2.2.2 = (0, L) :: shpTab.tail) : nxt h = 77 ∧ tot h ≤ L + 100000 := by
  constructor
  · unfold nxt; rw [e]; rfl
  · unfold tot
    rw [e, List.map_cons, List.sum_cons]
    exact Nat.add_le_add_left (by decide) L
theorem inv_start (e : h.2.2.2 = (0, L) :: shpTab.tail) (lay : Lay h.2.2) (d : D10 h) (r1 : R1a h) (f0 : ∀ j, gI h 0 j = xs j) (f3 : gI h 59 3 = nI 0) (f4 : gI h 59 4 = 0) (f8 : gI h 59 8 = 0) (f15 : gI h 59 15 = 0) (f16 : gI h 59 16 = -1) (rm : RM h 8 0 z16 z16 (fun _ => -1) (fun _ => []) (w00 0 8)) : Inv L xs h := by
  obtain ⟨x0, x1, x2, ⟨y0, y1, y2, y3⟩, ⟨l0, l1⟩, ⟨b0, b1⟩, c3, c6⟩ := d
  refine ⟨⟨lay, ⟨0, fun _ => 0, by decide, x0.2.2.2.2.2.2.1, by rw [f8]; rfl, fun i hi => absurd hi (Nat.not_lt_zero i)⟩, ⟨by rw [x0.1, f15]; rfl, by rw [x0.2.1, f16]⟩, fun j hj => ⟨l1 j, l1 (8 * j)⟩, Or.inl ⟨r1.2.2.2.2.2.2.2, f4⟩, Or.inl ⟨r1.2.2.2.2.2.2.2, tot_start e⟩, ⟨?_, fun j _ => f0 j⟩⟩, 8, 0, z16, z16, fun _ => -1, fun _ => [], w00 0 8, VS_00 0 (by decide) (by decide), x2, rm, HS.none y0 f3 (nx := 0) (by decide) y1⟩
  unfold shp; rw [e]; rfl
theorem law_start (hL3 : L ≤ 3072) (K : ∀ h : Hp, Inv L xs h → At 40 ML_law 18 (lc 0) [] h Q) : At 40 ML_law 0 (ent [.ref 0] 4) [] ((fun a j => if a = 0 then xs j else 0, fun _ _ => 0, fun _ _ => none, [(0, L)]) : Hp) Q := by
  show At 40 ML_law 0 [.ref 0, un, un, un] [] _ Q
  refine genA (P := fun h => h.2.2.2 = [(0, L)] ∧ ∀ j, gI h 0 j = xs j) ⟨rfl, fun j => rfl⟩ ?_
  rintro h ⟨e0, f0⟩
  have z0 : nxt h = 1 := by unfold nxt; rw [e0]; rfl
  refine At_newO (c := 8) (N := 8) (z := 1) (pc' := 3) iL_law_0 rfl rfl rfl z0 (by decide) ?_
  refine At_dup (pc' := 4) iL_law_3 rfl rfl ?_
  refine At_spec (pc' := 7) iL_law_4 rfl m_12_9 (Or.inl rfl) rfl rfl (Nat.le_of_ble_eq_true rfl) (Nat.le_of_ble_eq_true rfl) ?_
  refine k_X10 (d := 35) (by rw [sh_new, z0]; rfl) (by rw [nx_new, z0]) (fun h1 i1 e1 d1 r1 => ?_)
  show At 40 ML_law 7 [.ref 0, un, un, un] [.ref 1] h1 Q
  have e1' : h1.2.2.2 = ((0, L) :: ([(18, 8)] ++ S10)) := by
    rw [e1]; show (h.2.2.2 ++ [(18, 8)]) ++ S10 = _
    rw [e0]; rfl
  have z1 : nxt h1 = 59 := by unfold nxt; rw [e1']; rfl
  have f1 : ∀ j, gI h1 0 j = xs j := fun j => by rw [i1, gI_new, z0, if_neg (by decide)]; exact f0 j
  refine At_astore_n (L' := [.ref 0, .ref 1, un, un]) (pc' := 8) iL_law_7 rfl (Nat.le_of_ble_eq_true rfl) rfl ?_
  refine At_newO (c := 9) (N := 30) (z := 59) (pc' := 11) iL_law_8 rfl rfl rfl z1 (by decide) ?_
  refine At_dup (pc' := 12) iL_law_11 rfl rfl ?_
  refine At_spec (pc' := 15) iL_law_12 rfl m_12_12 (Or.inl rfl) rfl rfl (Nat.le_of_ble_eq_true rfl) (Nat.le_of_ble_eq_true rfl) ?_
  refine k_X11a (d := 38) (by rw [sh_new, z1]; rfl) (by rw [nx_new, z1]) (fun j => by rw [gI_new, z1]; rfl) (fun h2 nw r11 g59 g60 => ?_)
  have s2 : Sm 0 59 h1 h2 := fun b u w => ⟨fun j => by rw [nw.2.1 b j w, gI_new, z1, if_neg (by omega)], fun j => by rw [nw.2.2.1 b j w, gJ_new, z1, if_neg (by omega)], fun j => by rw [nw.2.2.2 b j w, gR_new, z1, if_neg (by omega)], by rw [nw.sh (by rw [nx_new, z1]; omega), sh_new, z1, if_neg (by omega)]⟩
  have e2 : h2.2.2.2 = (0, L) :: shpTab.tail := by
    rw [nw.1]; show (h1.2.2.2 ++ [(19, 30)]) ++ S11 = _
    rw [e1']; rfl
  have d2 : D10 h2 := d1.sm (s2.le (by decide) (by decide))
  have gr : ∀ j, gR h2 1 j = gR h1 1 j := fun j => (s2 1 (by decide) (by decide)).2.2.1 j
  have r2 : R1a h2 := by
    unfold R1a
    rw [gr, gr, gr, gr, gr, gr, gr, gr]
    exact r1
  have lay := lay_start e2 d2 r2 r11
  refine At_aload_n (pc' := 158) iX11_init_157 rfl rfl ?_
  refine At_bipush (v := nI 8) (pc' := 160) iX11_init_158 rfl (by decide) ?_
  refine At_virt (pc' := 163) iX11_init_160 rfl m_11_65 rfl rfl (kdK rfl (kd_59 lay)) (Nat.le_of_ble_eq_true rfl) (Nat.le_of_ble_eq_true rfl) ?_
  refine s_begins (d := 38) lay rfl (fun h3 e3 g3 q3 q60 => ?_)
  show At 39 MX11_init 163 [.ref 59] [] h3 _
  refine At_retV iX11_init_163 rfl ?_
  show At 40 ML_law 15 [.ref 0, .ref 1, un, un] [.ref 59] h3 Q
  refine At_astore_n (L' := [.ref 0, .ref 1, .ref 59, un]) (pc' := 16) iL_law_15 rfl (Nat.le_of_ble_eq_true rfl) rfl ?_
  refine At_iconst (v := nI 0) (pc' := 17) iL_law_16 rfl (by decide) ?_
  refine At_istore_n (L' := lc 0) (pc' := 18) iL_law_17 rfl (Nat.le_of_ble_eq_true rfl) rfl ?_
  rw [g60] at q60
  have s3 : Sm 0 59 h2 h3 := fun b u w => ⟨fun j => g3 b j (by omega) (by omega), fun j => gJ_e2 e3 b j, fun j => gR_e2 e3 b j, by unfold shp; rw [e3]⟩
  have g3' : ∀ j, j ≠ 3 → gI h3 59 j = if j = 16 then -1 else 0 := fun j hj => by rw [g3 59 j (by decide) (fun _ => hj)]; exact g59 j
  refine K h3 (inv_start (by rw [e3]; exact e2) (by rw [e3]; exact lay) (d2.sm (s3.le (by decide) (by decide))) ?_ (fun j => ?_) q3 (g3' 4 (by decide)) (g3' 8 (by decide)) (g3' 15 (by decide)) (g3' 16 (by decide)) (RM_bgn (by decide) (by decide) q60))
  · have gr3 : ∀ j, gR h3 1 j = gR h2 1 j := fun j => gR_e2 e3 1 j
    unfold R1a
    rw [gr3, gr3, gr3, gr3, gr3, gr3, gr3, gr3]
    exact r2
  · rw [(s3 0 (by decide) (by decide)).1, (s2 0 (by decide) (by decide)).1]; exact f1 j
end Start
