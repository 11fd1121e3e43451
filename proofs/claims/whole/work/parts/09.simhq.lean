section SimHq
variable {p : Program} {l : Launch} {e : Env} {R : Room} {s : State} {m : MethodId} {args : Array Value} {below : List Frame} {meth : Method} {c : Code} {Q : State → Prop} {D : va_G} {A : Nat → Prop} {b N0 : Nat} {xs : Nat → Int32} {aK aV : Nat → Nat} {y : Mth} {pc len : Nat} {i : Instr} {L S L' S' : List Value} {h h1 : Hp} {H : Heap} {locs : List Loc} {cells slots : Nat} {ls : Array Slot} {adr : Nat → Nat} {cA : Nat → ClassId}
theorem inB_in {j : Int32} {n : Nat} (h : inB j n = true) : vp_in j n := by
  unfold inB at h
  unfold vp_in
  exact of_decide_eq_true h
theorem hp_get {k a ci f : Nat} (C : Cx p s m args meth c y) (hT : Tb D A b N0 xs aK aV s) (hRel : Rel D A b N0 xs aK s adr cA H locs h) (hd : decode y.2.2.2.1 pc = .ok (.getfield k, 3)) (hf : lkp flT y.1 k = some (ci, f)) (hk : (shp h a).1 = 10 + ci) {rest : List Value}
    (kk : W p l e R s m args below meth c H locs cells slots Q (F0 m (pc + 3) ls (rv adr (fval h a (fkind ci f).1 f) :: rest))) : W p l e R s m args below meth c H locs cells slots Q (F0 m pc ls (.ref (adr a) :: rest)) := by
  obtain ⟨hx, hb, hml, hown, hts, -⟩ := C
  obtain ⟨⟨C0, T0, n0⟩, hq, hlt, hw⟩ := flW _ (lkp_mem hf)
  dsimp only at hq hlt hw
  obtain ⟨t1, t2, t3, t4, t5, t6, ty, t7, t8⟩ := vwW _ _ hq
  dsimp only at t1 t2 t3 t4 t5 t6 t7 t8
  have ha0 : 0 < a := hRel.pos (by omega)
  have ha : a < nxt h := shp_lt (by have := vw_lt hq; omega)
  have he := wsO_at (adr := adr) (cA := cA) ha0 ha
  rw [Ecell_obj hk] at he
  exact va_get (D := D) (ci := ci) (C := C0) (T := T0) (N := n0) hx hb hts t1 hown hT.1 hRel.1 (a - 1) he hq f hlt (hts _ hw) (fun _ q => q) (fvals_at (by omega)) hd kk
theorem hp_put {k a ci f : Nat} {v : Value} (C : Cx p s m args meth c y) (hT : Tb D A b N0 xs aK aV s) (hRel : Rel D A b N0 xs aK s adr cA H locs h) (hd : decode y.2.2.2.1 pc = .ok (.putfield k, 3)) (hf : lkp flT y.1 k = some (ci, f)) (hk : (shp h a).1 = 10 + ci) (hfin : (fkind ci f).2 = false ∨ (y.2.1 = true ∧ y.1 = cnum ci)) {rest : List Value}
    (hv : ((fkind ci f).1 = 0 ∧ ∃ x, v = .int x) ∨ ((fkind ci f).1 = 3 ∧ (v = .int 0 ∨ v = .int 1)) ∨ ((fkind ci f).1 = 1 ∧ ∃ x, v = .long x) ∨ ((fkind ci f).1 = 2 ∧ ∃ r, v = vr r))
    (hshape : h1.2.2.2 = h.2.2.2) (hHR : ∀ x k z, h1.2.2.1 x k = some z → z < nxt h) (ho : ∀ x, x ≠ a → h1.1 x = h.1 x ∧ h1.2.1 x = h.2.1 x ∧ h1.2.2.1 x = h.2.2.1 x) (hof : ∀ k t, k ≠ f → fval h1 a t k = fval h a t k) (hat : fval h1 a (fkind ci f).1 f = v)
    (kk : ∀ H1 locs1, Rel D A b N0 xs aK s adr cA H1 locs1 h1 → W p l e R s m args below meth c H1 locs1 cells slots Q (F0 m (pc + 3) ls rest)) : W p l e R s m args below meth c H locs cells slots Q (F0 m pc ls (rv adr v :: .ref (adr a) :: rest)) := by
  obtain ⟨hx, hb, hml, hown, hts, hrt, hin, -⟩ := C
  obtain ⟨⟨C0, T0, n0⟩, hq, hlt, hw⟩ := flW _ (lkp_mem hf)
  dsimp only at hq hlt hw
  obtain ⟨t1, t2, t3, t4, t5, t6, ty, t7, t8⟩ := vwW _ _ hq
  dsimp only at t1 t2 t3 t4 t5 t6 t7 t8
  have ha0 : 0 < a := hRel.pos (by omega)
  have ha : a < nxt h := shp_lt (by have := vw_lt hq; omega)
  have he := wsO_at (adr := adr) (cA := cA) ha0 ha
  rw [Ecell_obj hk] at he
  have hcs : f < csize ci := by omega
  obtain ⟨g1, g2, g3⟩ := t8 f hlt
  have hnf : narrow (ty f) (rv adr v) = rv adr v ∧ fits (ty f) (rv adr v) = true := by
    rcases hv with ⟨z, x, rfl⟩ | ⟨z, rfl | rfl⟩ | ⟨z, x, rfl⟩ | ⟨z, r, rfl⟩
    · rw [z] at g3; rw [g3]; exact ⟨rfl, rfl⟩
    · rw [z] at g3; rw [g3]; exact ⟨rfl, rfl⟩
    · rw [z] at g3; rw [g3]; exact ⟨rfl, rfl⟩
    · rw [z] at g3; rw [g3]; exact ⟨rfl, rfl⟩
    · rw [z] at g3
      rcases g3 with ⟨q, g3⟩ | ⟨q, g3⟩ <;> rw [g3] <;> cases r <;> exact ⟨rfl, rfl⟩
  have hset : (fvals adr h a ci).set f (rv adr v) = fvals adr h1 a ci := fvals_set hcs (by rw [hat]) (fun k hk => hof k _ hk)
  have hsh : shp h1 a = shp h a := by unfold shp; rw [hshape]
  have hE : Ecell adr cA h1 a = .inr (ci, (fvals adr h a ci).set f (rv adr v)) := by rw [hset]; exact Ecell_obj (by rw [hsh]; exact hk)
  have fin : ∀ (H1 : Heap) (locs1 : List Loc), va_P D vwCl ((wsO adr cA h).set (a - 1) (adr a, .inr (ci, (fvals adr h a ci).set f (rv adr v)))) H1 → va_D A ((wsO adr cA h).set (a - 1) (adr a, .inr (ci, (fvals adr h a ci).set f (rv adr v)))) → va_S A s.heap H1 locs1 → W p l e R s m args below meth c H1 locs1 cells slots Q (F0 m (pc + 3) ls rest) :=
    fun H1 locs1 hP hD hS => kk H1 locs1 (hRel.wr ha0 ha hshape hHR hE ho hP hD hS)
  rcases hfin with hfin | ⟨hi1, hi2⟩
  · exact va_put (D := D) (ci := ci) (v := rv adr v) (ty := ty f) (C := C0) (T := T0) (N := n0) hx hb hts t1 ty t7 t6 hown hT.1 hRel.1 hRel.2.1 hRel.2.2.1 (a - 1) he hq f hlt (hts _ hw) (fun _ q => q) (by rw [g2]; exact hfin) (t7 f hlt) hnf.1 hnf.2 (by rw [fvals_len]; exact hcs) hd fin
  · cases hf2 : (fkind ci f).2 with
    | false => exact va_put (D := D) (ci := ci) (v := rv adr v) (ty := ty f) (C := C0) (T := T0) (N := n0) hx hb hts t1 ty t7 t6 hown hT.1 hRel.1 hRel.2.1 hRel.2.2.1 (a - 1) he hq f hlt (hts _ hw) (fun _ q => q) (by rw [g2]; exact hf2) (t7 f hlt) hnf.1 hnf.2 (by rw [fvals_len]; exact hcs) hd fin
    | true => exact va_putF (D := D) (ci := ci) (v := rv adr v) (ty := ty f) (C := C0) (T := T0) (N := n0) hx hb hts t1 ty t7 t6 hown hT.1 hRel.1 hRel.2.1 hRel.2.2.1 (a - 1) he hq f hlt (hts _ hw) (fun _ q => q) (by rw [g2]; exact hf2) (hin hi1) (by rw [g1, hi2, t3]) (t7 f hlt) hnf.1 hnf.2 (by rw [fvals_len]; exact hcs) hd fin
theorem hp_iald {a : Nat} {j : Int32} (C : Cx p s m args meth c y) (hT : Tb D A b N0 xs aK aV s) (hRel : Rel D A b N0 xs aK s adr cA H locs h) (hd : decode y.2.2.2.1 pc = .ok (.iaload, 1)) (hk : (shp h a).1 = 0 ∨ (shp h a).1 = 1) (hj : inB j (shp h a).2 = true) {rest : List Value}
    (kk : W p l e R s m args below meth c H locs cells slots Q (F0 m (pc + 1) ls (.int (gI h a j.toNatClampNeg) :: rest))) : W p l e R s m args below meth c H locs cells slots Q (F0 m pc ls (.int j :: .ref (adr a) :: rest)) := by
  obtain ⟨hx, hb, hml, hown, hts, -⟩ := C
  have hin := inB_in hj
  rcases hk with hk | hk
  · have h0 := hRel.kind0 hk
    subst h0
    rw [hRel.2.2.2.2.2.2.1] at hin
    have hlt : j.toNatClampNeg < N0 := Nat.not_le.mp fun q => hin (Or.inr q)
    unfold gI at kk
    rw [hRel.2.2.2.2.2.2.2.1 _ hlt] at kk
    rw [hRel.2.2.2.2.1]
    exact va_sld hx hb hT.2.2.2.2.1 hT.2.2.2.2.2.1 hT.2.2.2.2.2.2.1 hRel.2.2.1 hin hd kk
  · have ha0 : 0 < a := hRel.pos (by omega)
    have ha : a < nxt h := shp_lt (by omega)
    have he := wsO_at (adr := adr) (cA := cA) ha0 ha
    rw [Ecell_arr (by omega)] at he
    have hty := hRel.2.2.2.1 a ha0 ha (by omega) (by omega)
    rw [hk] at hty
    exact va_iald hx hb (va_Kt hT.1 hty) hRel.1 (a - 1) 0 he rfl hin hd kk
theorem hp_bald {a : Nat} {j : Int32} (C : Cx p s m args meth c y) (hT : Tb D A b N0 xs aK aV s) (hRel : Rel D A b N0 xs aK s adr cA H locs h) (hd : decode y.2.2.2.1 pc = .ok (.baload, 1)) (hk : (shp h a).1 = 2) (hj : inB j (shp h a).2 = true) {rest : List Value}
    (kk : W p l e R s m args below meth c H locs cells slots Q (F0 m (pc + 1) ls (.int (gI h a j.toNatClampNeg) :: rest))) : W p l e R s m args below meth c H locs cells slots Q (F0 m pc ls (.int j :: .ref (adr a) :: rest)) := by
  obtain ⟨hx, hb, hml, hown, hts, -⟩ := C
  have hin := inB_in hj
  have ha0 : 0 < a := hRel.pos (by omega)
  have ha : a < nxt h := shp_lt (by omega)
  have he := wsO_at (adr := adr) (cA := cA) ha0 ha
  rw [Ecell_arr (by omega)] at he
  have hty := hRel.2.2.2.1 a ha0 ha (by omega) (by omega)
  rw [hk] at hty
  exact va_bald hx hb (va_Kt hT.1 hty) hRel.1 (a - 1) 0 he rfl hin hd kk
theorem hp_aald {a : Nat} {j : Int32} (C : Cx p s m args meth c y) (hT : Tb D A b N0 xs aK aV s) (hRel : Rel D A b N0 xs aK s adr cA H locs h) (hd : decode y.2.2.2.1 pc = .ok (.aaload, 1)) (hk : (shp h a).1 = 3 ∨ (shp h a).1 = 4) (hj : inB j (shp h a).2 = true) {rest : List Value}
    (kk : W p l e R s m args below meth c H locs cells slots Q (F0 m (pc + 1) ls (rv adr (vr (gR h a j.toNatClampNeg)) :: rest))) : W p l e R s m args below meth c H locs cells slots Q (F0 m pc ls (.int j :: .ref (adr a) :: rest)) := by
  obtain ⟨hx, hb, hml, hown, hts, -⟩ := C
  have hin := inB_in hj
  have ha0 : 0 < a := hRel.pos (by omega)
  have ha : a < nxt h := shp_lt (by omega)
  have he := wsO_at (adr := adr) (cA := cA) ha0 ha
  rw [Ecell_ref hk] at he
  have hty := hRel.2.2.2.1 a ha0 ha (by omega) (by omega)
  have hkt : kty (shp h a).1 = .object (aoT (shp h a).1) := by unfold kty; rw [if_neg (by omega), if_neg (by omega)]
  rw [hkt] at hty
  rw [rv_vr] at kk
  exact va_aldq hx hb (va_Kt hT.1 hty) hRel.1 (a - 1) 0 he rfl hin hd kk
theorem hp_iast {a : Nat} {j x : Int32} (C : Cx p s m args meth c y) (hT : Tb D A b N0 xs aK aV s) (hRel : Rel D A b N0 xs aK s adr cA H locs h) (hd : decode y.2.2.2.1 pc = .ok (.iastore, 1)) (hk : (shp h a).1 = 1) (hj : inB j (shp h a).2 = true) {rest : List Value}
    (kk : ∀ H1 locs1, Rel D A b N0 xs aK s adr cA H1 locs1 (sI h a j.toNatClampNeg x) → W p l e R s m args below meth c H1 locs1 cells slots Q (F0 m (pc + 1) ls rest)) : W p l e R s m args below meth c H locs cells slots Q (F0 m pc ls (.int x :: .int j :: .ref (adr a) :: rest)) := by
  obtain ⟨hx, hb, hml, hown, hts, -⟩ := C
  have hin := inB_in hj
  have ha0 : 0 < a := hRel.pos (by omega)
  have ha : a < nxt h := shp_lt (by omega)
  have he := wsO_at (adr := adr) (cA := cA) ha0 ha
  rw [Ecell_arr (by omega)] at he
  have hty := hRel.2.2.2.1 a ha0 ha (by omega) (by omega)
  rw [hk] at hty
  refine va_iast hx hb (va_Kt hT.1 hty) hRel.1 hRel.2.1 hRel.2.2.1 (a - 1) 0 he rfl hin hd (fun H1 locs1 hP hD hS => kk H1 locs1 (hRel.wr (h1 := sI h a j.toNatClampNeg x) ha0 ha rfl (fun x k z hz => hRel.2.2.2.2.2.2.2.2.1 x k z hz) ?_ (fun x hx => ⟨sI_row hx, rfl, rfl⟩) hP hD hS))
  have e1 : shp (sI h a j.toNatClampNeg x) a = shp h a := rfl
  rw [Ecell_arr (by rw [e1]; omega), e1, sI_row_at]
theorem hp_bast {a : Nat} {j x : Int32} (C : Cx p s m args meth c y) (hT : Tb D A b N0 xs aK aV s) (hRel : Rel D A b N0 xs aK s adr cA H locs h) (hd : decode y.2.2.2.1 pc = .ok (.bastore, 1)) (hk : (shp h a).1 = 2) (hj : inB j (shp h a).2 = true) {rest : List Value}
    (kk : ∀ H1 locs1, Rel D A b N0 xs aK s adr cA H1 locs1 (sI h a j.toNatClampNeg (vp_nar .byte x)) → W p l e R s m args below meth c H1 locs1 cells slots Q (F0 m (pc + 1) ls rest)) : W p l e R s m args below meth c H locs cells slots Q (F0 m pc ls (.int x :: .int j :: .ref (adr a) :: rest)) := by
  obtain ⟨hx, hb, hml, hown, hts, -⟩ := C
  have hin := inB_in hj
  have ha0 : 0 < a := hRel.pos (by omega)
  have ha : a < nxt h := shp_lt (by omega)
  have he := wsO_at (adr := adr) (cA := cA) ha0 ha
  rw [Ecell_arr (by omega)] at he
  have hty := hRel.2.2.2.1 a ha0 ha (by omega) (by omega)
  rw [hk] at hty
  refine va_bast hx hb (va_Kt hT.1 hty) hRel.1 hRel.2.1 hRel.2.2.1 (a - 1) 0 he rfl hin hd (fun H1 locs1 hP hD hS => kk H1 locs1 (hRel.wr (h1 := sI h a j.toNatClampNeg (vp_nar .byte x)) ha0 ha rfl (fun x k z hz => hRel.2.2.2.2.2.2.2.2.1 x k z hz) ?_ (fun x hx => ⟨sI_row hx, rfl, rfl⟩) hP hD hS))
  have e1 : shp (sI h a j.toNatClampNeg (vp_nar .byte x)) a = shp h a := rfl
  rw [Ecell_arr (by rw [e1]; omega), e1, sI_row_at]
theorem hp_aast {a v : Nat} {j : Int32} (C : Cx p s m args meth c y) (hT : Tb D A b N0 xs aK aV s) (hRel : Rel D A b N0 xs aK s adr cA H locs h) (hd : decode y.2.2.2.1 pc = .ok (.aastore, 1)) (hk : ((shp h a).1 = 3 ∧ (shp h v).1 = 15) ∨ ((shp h a).1 = 4 ∧ (shp h v).1 = 11)) (hj : inB j (shp h a).2 = true) {rest : List Value}
    (kk : ∀ H1 locs1, Rel D A b N0 xs aK s adr cA H1 locs1 (sR h a j.toNatClampNeg (some v)) → W p l e R s m args below meth c H1 locs1 cells slots Q (F0 m (pc + 1) ls rest)) : W p l e R s m args below meth c H locs cells slots Q (F0 m pc ls (.ref (adr v) :: .int j :: .ref (adr a) :: rest)) := by
  obtain ⟨hx, hb, hml, hown, hts, -⟩ := C
  have hin := inB_in hj
  have ha0 : 0 < a := hRel.pos (by omega)
  have ha : a < nxt h := shp_lt (by omega)
  have hv0 : 0 < v := hRel.pos (by omega)
  have hv : v < nxt h := shp_lt (by omega)
  have he := wsO_at (adr := adr) (cA := cA) ha0 ha
  rw [Ecell_ref (by omega)] at he
  have hty := hRel.2.2.2.1 a ha0 ha (by omega) (by omega)
  have e1 : shp (sR h a j.toNatClampNeg (some v)) a = shp h a := rfl
  have hE : Ecell adr cA (sR h a j.toNatClampNeg (some v)) a = .inl (cA a, (shp h a).2, .inr (.inr (.inr (.inr (va_up (fun j => (h.2.2.1 a j).map adr) j.toNatClampNeg (some (adr v))))))) := by
    rw [Ecell_ref (by rw [e1]; omega), e1]
    have : (fun z => ((sR h a j.toNatClampNeg (some v)).2.2.1 a z).map adr) = va_up (fun j => (h.2.2.1 a j).map adr) j.toNatClampNeg (some (adr v)) := by
      funext z
      simp only [sR, va_up, true_and]
      split <;> rfl
    rw [this]
  have hfin : ∀ (H1 : Heap) (locs1 : List Loc), va_P D vwCl ((wsO adr cA h).set (a - 1) (adr a, .inl (cA a, (shp h a).2, .inr (.inr (.inr (.inr (va_up (fun j => (h.2.2.1 a j).map adr) j.toNatClampNeg (some (adr v))))))))) H1 → va_D A ((wsO adr cA h).set (a - 1) (adr a, .inl (cA a, (shp h a).2, .inr (.inr (.inr (.inr (va_up (fun j => (h.2.2.1 a j).map adr) j.toNatClampNeg (some (adr v))))))))) → va_S A s.heap H1 locs1 → W p l e R s m args below meth c H1 locs1 cells slots Q (F0 m (pc + 1) ls rest) := fun H1 locs1 hP hD hS => kk H1 locs1 (hRel.wr (h1 := sR h a j.toNatClampNeg (some v)) ha0 ha rfl (fun x k z hz => by
      have hz2 : (if x = a ∧ k = j.toNatClampNeg then some v else h.2.2.1 x k) = some z := hz
      split at hz2
      · cases hz2; exact hv
      · exact hRel.2.2.2.2.2.2.2.2.1 x k z hz2) hE (fun x hx => ⟨rfl, rfl, sR_row hx⟩) hP hD hS)
  have hev := wsO_at (adr := adr) (cA := cA) hv0 hv
  rcases hk with ⟨k1, k2⟩ | ⟨k1, k2⟩
  · rw [Ecell_obj (c := 5) (by omega)] at hev
    have hkt : kty (shp h a).1 = .object RX7 := by rw [k1]; rfl
    rw [hkt] at hty
    exact va_astq hx hb (va_Kt hT.1 hty) hRel.1 hRel.2.1 hRel.2.2.1 (a - 1) 0 (v - 1) 5 (r := (RX7, TX7, 2)) he rfl hev rfl hin hd hfin
  · rw [Ecell_obj (c := 1) (by omega)] at hev
    have hkt : kty (shp h a).1 = .object RX1 := by rw [k1]; rfl
    rw [hkt] at hty
    exact va_astq hx hb (va_Kt hT.1 hty) hRel.1 hRel.2.1 hRel.2.2.1 (a - 1) 0 (v - 1) 1 (r := (RX1, TX1, 6)) he rfl hev rfl hin hd hfin
theorem hp_alen {a : Nat} (C : Cx p s m args meth c y) (hT : Tb D A b N0 xs aK aV s) (hRel : Rel D A b N0 xs aK s adr cA H locs h) (hd : decode y.2.2.2.1 pc = .ok (.arraylength, 1)) (hk : (shp h a).1 ≤ 4) {rest : List Value}
    (kk : W p l e R s m args below meth c H locs cells slots Q (F0 m (pc + 1) ls (.int (Int32.ofNat (shp h a).2) :: rest))) : W p l e R s m args below meth c H locs cells slots Q (F0 m pc ls (.ref (adr a) :: rest)) := by
  obtain ⟨hx, hb, hml, hown, hts, -⟩ := C
  rcases Nat.eq_zero_or_pos (shp h a).1 with h0 | h0
  · have h0 := hRel.kind0 h0
    subst h0
    rw [hRel.2.2.2.2.2.2.1] at kk
    rw [hRel.2.2.2.2.1]
    exact va_slen hx hb hT.2.2.2.2.1 hT.2.2.2.2.2.1 hT.2.2.2.2.2.2.1 hRel.2.2.1 hd kk
  · have ha0 : 0 < a := hRel.pos (by omega)
    have ha : a < nxt h := shp_lt (by omega)
    have he := wsO_at (adr := adr) (cA := cA) ha0 ha
    have hty := hRel.2.2.2.1 a ha0 ha (by omega) (by omega)
    rcases Nat.lt_or_ge (shp h a).1 3 with q | q
    · rw [Ecell_arr (by omega)] at he
      exact va_alen hx hb (va_Kt hT.1 hty) hRel.1 (a - 1) 0 he rfl rfl hd kk
    · rw [Ecell_ref (by omega)] at he
      exact va_alen hx hb (va_Kt hT.1 hty) hRel.1 (a - 1) 0 he rfl rfl hd kk
theorem hp_newi {n : Int32} (C : Cx p s m args meth c y) (hT : Tb D A b N0 xs aK aV s) (hRel : Rel D A b N0 xs aK s adr cA H locs h) (hd : decode y.2.2.2.1 pc = .ok (.newarray .int, 2)) (hn : ¬ n < 0) (hN : n.toNatClampNeg ≤ 100000) (hlt : nxt h < 900000) (hc : cells + 1 ≤ R.cells) (hs : slots + n.toNatClampNeg ≤ R.slots) {rest : List Value}
    (kk : ∀ H1 locs1 q cq, Rel D A b N0 xs aK s (va_up adr (nxt h) q) (va_up cA (nxt h) cq) H1 locs1 (newO h 1 n.toNatClampNeg) → W p l e R s m args below meth c H1 locs1 (cells + 1) (slots + n.toNatClampNeg) Q (F0 m (pc + 2) ls (.ref q :: rest))) : W p l e R s m args below meth c H locs cells slots Q (F0 m pc ls (.int n :: rest)) := by
  obtain ⟨hx, hb, hml, hown, hts, -⟩ := C
  refine va_newa (atype := .int) hx hb (hts _ w_int) (ty := .int) rfl hT.1 hRel.1 hRel.2.1 hRel.2.2.1 hT.2.2.2.2.2.2.2.1 (a0 := (n.toNatClampNeg, .inl (fun _ => 0))) (fun _ => rfl) hn rfl (by show n.toNatClampNeg * 4 ≤ _; omega) hc hs hd (fun q cq H1 hK1 hP hD hS => kk H1 _ q cq (hRel.nw hlt (by decide) (fun _ _ => hK1.2 0 _ rfl) ?_ hP hD hS))
  rw [Ecell_arr (by rw [shp_new]; exact Nat.le_of_ble_eq_true rfl), shp_new, show va_up cA (nxt h) cq (nxt h) = cq by simp [va_up]]
  have : (newO h 1 n.toNatClampNeg).1 (nxt h) = fun _ => 0 := by funext j; simp [newO]
  rw [this]
theorem hp_newb {n : Int32} (C : Cx p s m args meth c y) (hT : Tb D A b N0 xs aK aV s) (hRel : Rel D A b N0 xs aK s adr cA H locs h) (hd : decode y.2.2.2.1 pc = .ok (.newarray .byte, 2)) (hn : ¬ n < 0) (hN : n.toNatClampNeg ≤ 100000) (hlt : nxt h < 900000) (hc : cells + 1 ≤ R.cells) (hs : slots + n.toNatClampNeg ≤ R.slots) {rest : List Value}
    (kk : ∀ H1 locs1 q cq, Rel D A b N0 xs aK s (va_up adr (nxt h) q) (va_up cA (nxt h) cq) H1 locs1 (newO h 2 n.toNatClampNeg) → W p l e R s m args below meth c H1 locs1 (cells + 1) (slots + n.toNatClampNeg) Q (F0 m (pc + 2) ls (.ref q :: rest))) : W p l e R s m args below meth c H locs cells slots Q (F0 m pc ls (.int n :: rest)) := by
  obtain ⟨hx, hb, hml, hown, hts, -⟩ := C
  refine va_newa (atype := .byte) hx hb (hts _ w_byte) (ty := .byte) rfl hT.1 hRel.1 hRel.2.1 hRel.2.2.1 hT.2.2.2.2.2.2.2.1 (a0 := (n.toNatClampNeg, .inl (fun _ => 0))) (fun _ => rfl) hn rfl (by show n.toNatClampNeg * 1 ≤ _; omega) hc hs hd (fun q cq H1 hK1 hP hD hS => kk H1 _ q cq (hRel.nw hlt (by decide) (fun _ _ => hK1.2 0 _ rfl) ?_ hP hD hS))
  rw [Ecell_arr (by rw [shp_new]; exact Nat.le_of_ble_eq_true rfl), shp_new, show va_up cA (nxt h) cq (nxt h) = cq by simp [va_up]]
  have : (newO h 2 n.toNatClampNeg).1 (nxt h) = fun _ => 0 := by funext j; simp [newO]
  rw [this]
theorem hp_newq {n : Int32} {k kd : Nat} (C : Cx p s m args meth c y) (hT : Tb D A b N0 xs aK aV s) (hRel : Rel D A b N0 xs aK s adr cA H locs h) (hd : decode y.2.2.2.1 pc = .ok (.anewarray k, 3)) (hkd : lkp anewT y.1 k = some kd) (hn : ¬ n < 0) (hN : n.toNatClampNeg ≤ 100000) (hlt : nxt h < 900000) (hc : cells + 1 ≤ R.cells) (hs : slots + n.toNatClampNeg ≤ R.slots) {rest : List Value}
    (kk : ∀ H1 locs1 q cq, Rel D A b N0 xs aK s (va_up adr (nxt h) q) (va_up cA (nxt h) cq) H1 locs1 (newO h kd n.toNatClampNeg) → W p l e R s m args below meth c H1 locs1 (cells + 1) (slots + n.toNatClampNeg) Q (F0 m (pc + 3) ls (.ref q :: rest))) : W p l e R s m args below meth c H locs cells slots Q (F0 m pc ls (.int n :: rest)) := by
  obtain ⟨hx, hb, hml, hown, hts, -⟩ := C
  obtain ⟨w1, w2, w3⟩ := anewW _ (lkp_mem hkd)
  dsimp only at w1 w2 w3
  refine va_newq hx hb hown (hts _ w2) (hT.2.2.1 kd w1) hT.1 hRel.1 hRel.2.1 hRel.2.2.1 hT.2.2.2.2.2.2.2.1 hn rfl (by omega) hc hs hd (fun q cq H1 hK1 hP hD hS => kk H1 _ q cq (hRel.nw hlt (by omega) (fun _ _ => ?_) ?_ hP hD hS))
  · have hz := hK1.2 0 _ rfl
    rw [show kty kd = .object (aoT kd) by unfold kty; rw [if_neg (by omega), if_neg (by omega)]]
    exact hz
  · rw [Ecell_ref (by rw [shp_new]; exact w1), shp_new, show va_up cA (nxt h) cq (nxt h) = cq by simp [va_up]]
    have : (fun j => ((newO h kd n.toNatClampNeg).2.2.1 (nxt h) j).map (va_up adr (nxt h) q)) = fun _ => none := by funext j; simp [newO]
    rw [this]
theorem hp_new {k ci : Nat} (C : Cx p s m args meth c y) (hT : Tb D A b N0 xs aK aV s) (hRel : Rel D A b N0 xs aK s adr cA H locs h) (hd : decode y.2.2.2.1 pc = .ok (.new k, 3)) (hkd : lkp newT y.1 k = some ci) (hlt : nxt h < 900000) (hc : cells + 1 ≤ R.cells) (hs : slots + csize ci ≤ R.slots) {rest : List Value}
    (kk : ∀ H1 locs1 q cq, Rel D A b N0 xs aK s (va_up adr (nxt h) q) (va_up cA (nxt h) cq) H1 locs1 (newO h (10 + ci) (csize ci)) → W p l e R s m args below meth c H1 locs1 (cells + 1) (slots + csize ci) Q (F0 m (pc + 3) ls (.ref q :: rest))) : W p l e R s m args below meth c H locs cells slots Q (F0 m pc ls rest) := by
  obtain ⟨hx, hb, hml, hown, hts, -⟩ := C
  obtain ⟨⟨C0, T0, n0⟩, hq, w2⟩ := newW _ (lkp_mem hkd)
  dsimp only at hq w2
  obtain ⟨t1, t2, t3, t4, t5, t6, ty, t7, t8⟩ := vwW _ _ hq
  dsimp only at t1 t2 t3 t4 t5 t6 t7 t8
  subst t2
  have hfs : ∀ q cq, Ecell (va_up adr (nxt h) q) (va_up cA (nxt h) cq) (newO h (10 + ci) (csize ci)) (nxt h) = .inr (ci, fvals (va_up adr (nxt h) 0) (newO h (10 + ci) (csize ci)) (nxt h) ci) := by
    intro q cq
    rw [Ecell_obj (c := ci) (by rw [shp_new])]
    congr 2
    unfold fvals
    apply List.map_congr_left
    intro z _
    unfold fval
    split
    · rfl
    · split
      · simp [gR, newO, vr, rv]
      · rfl
  refine va_new (ci := ci) (C := C0) (T := T0) (N := csize ci) (fs := fvals (va_up adr (nxt h) 0) (newO h (10 + ci) (csize ci)) (nxt h) ci) hx hb hts t1 ty t7 hown (hts _ w2) (hts _ t4) (hts _ t5) hT.1 hRel.1 hRel.2.1 hRel.2.2.1 hT.2.2.2.2.2.2.2.1 hq ?_ hc hs hd (fun q H1 hP hD hS => kk H1 _ q 0 (hRel.nw hlt (by omega) (fun _ q => absurd q (by omega)) (hfs q 0) hP hD hS))
  intro j hj
  unfold vp_V
  rw [List.getD_eq_getElem?_getD, fvals_at hj]
  simp only [Option.getD_some]
  obtain ⟨-, -, g3⟩ := t8 j hj
  unfold fval
  split at g3
  · rename_i z; rw [g3, z]; simp [gI, newO, rv, defaultValue]
  · rename_i z; rw [g3, z]; simp [gJ, newO, rv, defaultValue]
  · rename_i z; rw [g3, z]; simp [gI, newO, rv, defaultValue]
  · rename_i z
    rw [z]
    rcases g3 with ⟨q, g3⟩ | ⟨q, g3⟩ <;> rw [g3] <;> simp [gR, newO, rv, vr, defaultValue]
  · exact g3.elim
end SimHq
