theorem pp_chr : (parseMethodDescriptor yJ0_charAt_5068e.desc).map (fun d => d.parameters.length) = some 1 := by decide +kernel
section Sim
variable {p : Program} {l : Launch} {e : Env} {R : Room} {s : State} {m : MethodId} {args : Array Value} {below : List Frame} {meth : Method} {c : Code} {Q : State → Prop} {D : va_G} {A : Nat → Prop} {b N0 : Nat} {xs : Nat → Int32} {aK aV : Nat → Nat} {y : Mth} {pc len : Nat} {i : Instr} {L S L' S' : List Value} {h h1 : Hp} {H : Heap} {locs : List Loc} {cells slots : Nat} {ls : Array Slot} {adr : Nat → Nat} {cA : Nat → ClassId}
theorem st_len {k i : Nat} {rest : List Value} (C : Cx p s m args meth c y) (hT : Tb D A b N0 xs aK aV s) (hRel : Rel D A b N0 xs aK s adr cA H locs h) (hls : ls.size = c.maxLocals) (hd : decode y.2.2.2.1 pc = .ok (.invokevirtual k, 3)) (hlk : Cond.methodLink (clsN y.1) k yJ0_length_8abf5 ∈ gt) (hi : i < 6) (hcat : (rest.map fun v => v.category).sum ≤ 8) (hfr : 5 ≤ R.frames) (hlo : 320 ≤ R.locals) (hc : cells ≤ R.cells) (hs : slots ≤ R.slots)
    (kk : W p l e R s m args below meth c H locs cells slots Q (F0 m (pc + 3) ls (.int (Int32.ofNat (strT.getD i []).length) :: rest))) : W p l e R s m args below meth c H locs cells slots Q (F0 m pc ls (.ref (aK i) :: rest)) := by
  exact ro_V (vs := []) (rest := rest) ⟨C.1, C.2.1, C.2.2.1, C.2.2.2.1, C.2.2.2.2.1⟩ hT hRel.2.2.1 hi (m_len hi) ws_len_c ws_len_i ws_len_m ws_len_v hlk (by decide +kernel) ⟨by omega, by omega⟩ (hls.trans C.2.2.1) hcat hd hc hs kk
theorem st_chr {k i : Nat} {j : Int32} {rest : List Value} (C : Cx p s m args meth c y) (hT : Tb D A b N0 xs aK aV s) (hRel : Rel D A b N0 xs aK s adr cA H locs h) (hls : ls.size = c.maxLocals) (hd : decode y.2.2.2.1 pc = .ok (.invokevirtual k, 3)) (hlk : Cond.methodLink (clsN y.1) k yJ0_charAt_5068e ∈ gt) (hi : i < 6) (hj : inB j (strT.getD i []).length = true) (hcat : (rest.map fun v => v.category).sum ≤ 8) (hfr : 5 ≤ R.frames) (hlo : 320 ≤ R.locals) (hc : cells ≤ R.cells) (hs : slots ≤ R.slots)
    (kk : W p l e R s m args below meth c H locs cells slots Q (F0 m (pc + 3) ls (.int ((strT.getD i []).getD j.toNatClampNeg 0) :: rest))) : W p l e R s m args below meth c H locs cells slots Q (F0 m pc ls (.int j :: .ref (aK i) :: rest)) := by
  exact ro_V (vs := [.int j]) (rest := rest) ⟨C.1, C.2.1, C.2.2.1, C.2.2.2.1, C.2.2.2.2.1⟩ hT hRel.2.2.1 hi (m_chr hi hj) ws_chr_c ws_chr_i ws_chr_m ws_chr_v hlk ⟨by decide, by decide, pp_chr⟩ ⟨by omega, by omega⟩ (hls.trans C.2.2.1) hcat hd hc hs kk
theorem cats_rv (adr : Nat → Nat) (S : List Value) : ((S.map (rv adr)).map fun v => v.category).sum = cats S := by
  unfold cats
  rw [List.map_map]
  congr 1
  apply List.map_congr_left
  intro v _
  exact rv_cat adr v
/-- the machine's own methods that are one step here -/
theorem iv_ft (C : Cx p s m args meth c y) (hT : Tb D A b N0 xs aK aV s) (hd : decode y.2.2.2.1 pc = .ok (i, len)) (hl : ilen i = 0 ∨ len = ilen i) (ha : actIv y i L S h = some (.inl (L', S', h1))) (hRel : Rel D A b N0 xs aK s adr cA H locs h) (hLR : LR adr L ls y.2.2.2.2.1) (hVS : VK h S) (hfr : 5 ≤ R.frames) (hlo : 320 ≤ R.locals) (hc : cells ≤ R.cells) (hs : slots ≤ R.slots) :
    L' = L ∧ nxt h1 = nxt h ∧ tot h1 = tot h ∧ VK h S' ∧ ((∀ H1 locs1, Rel D A b N0 xs aK s adr cA H1 locs1 h1 → W p l e R s m args below meth c H1 locs1 cells slots Q (F0 m (pc + len) ls (S'.map (rv adr)))) → W p l e R s m args below meth c H locs cells slots Q (F0 m pc ls (S.map (rv adr)))) := by
  have hR : HR h := hRel.2.2.2.2.2.2.2.2
  have c1 : ∀ {a : Value} {S : List Value}, VK h (a :: S) → VK h S := fun q => (List.forall_mem_cons.mp q).2
  have cc : ∀ {a : Value} {S : List Value}, vok h a → VK h S → VK h (a :: S) := fun q z => List.forall_mem_cons.mpr ⟨q, z⟩
  have C' := C
  obtain ⟨hx, hb, hml, hown, hts, -⟩ := C
  have hls : ls.size = c.maxLocals := by rw [hml]; exact hLR.1
  unfold actIv at ha
  split at ha
  · have hl := hl.resolve_left (Nat.succ_ne_zero _); subst hl
    split at ha
    · split at ha <;> cases ha
    · rename_i w hm
      have hw := mlW _ (lkp_mem hm)
      split at ha
      · split at ha
        · rename_i hcat
          cases ha
          exact ⟨rfl, rfl, rfl, cc trivial (c1 (c1 hVS)), fun k => va_mmax hx hb hls.symm hown (hts _ hw) (hts _ w_max_s) (hts _ w_math) (hts _ w_max_c) (by omega) (by rw [cats_rv]; omega) hc hs hd (k H locs hRel)⟩
        · cases ha
      · cases ha
    · rename_i w hm
      have hw := mlW _ (lkp_mem hm)
      split at ha
      · split at ha
        · rename_i hcat
          cases ha
          exact ⟨rfl, rfl, rfl, cc trivial (c1 (c1 hVS)), fun k => va_mmin hx hb hls.symm hown (hts _ hw) (hts _ w_min_s) (hts _ w_math) (hts _ w_min_c) (by omega) (by rw [cats_rv]; omega) hc hs hd (k H locs hRel)⟩
        · cases ha
      · cases ha
    · rename_i w hm
      have hw := mlW _ (lkp_mem hm)
      split at ha
      · split at ha
        · rename_i n dp b0 sp a0 S0 hcnd
          obtain ⟨q1, q2, q3, q4, q5, q6, q7, q8⟩ := hcnd
          cases ha
          refine ⟨rfl, rfl, rfl, c1 (c1 (c1 (c1 (c1 hVS)))), fun k => ?_⟩
          have ha0 : 0 < a0 := hRel.pos (by omega)
          have ha : a0 < nxt h := shp_lt (by omega)
          have hb0 : 0 < b0 := hRel.pos (by omega)
          have hbb : b0 < nxt h := shp_lt (by omega)
          have hea := wsO_at (adr := adr) (cA := cA) ha0 ha
          have heb := wsO_at (adr := adr) (cA := cA) hb0 hbb
          rw [Ecell_arr (by omega)] at hea heb
          have tya := hRel.2.2.2.1 a0 ha0 ha (by omega) (by omega)
          have tyb := hRel.2.2.2.1 b0 hb0 hbb (by omega) (by omega)
          rw [q2] at tya
          rw [q3] at tyb
          have hK2 : va_K D vwCl [(cA a0, .int), (cA b0, .int)] s := by
            refine ⟨hT.1.1, fun k q hq => ?_⟩
            match k, hq with
            | 0, hq => cases hq; exact tya
            | 1, hq => cases hq; exact tyb
            | k + 2, hq => simp at hq
          have hnw : nativeFrameWords "java/lang/System" "arraycopy" 5 = 7 := by decide +kernel
          refine va_copyi hx hb hls.symm hown (hts _ hw) (hts _ w_cp_n) (hts _ w_cp_s) (hts _ w_sys) hK2 hRel.1 hRel.2.1 hRel.2.2.1 (a0 - 1) (b0 - 1) 0 1 (ty := .int) hea heb rfl rfl rfl q4 q5 q6 q7 q8 (fun _ _ => rfl) (by omega) (by rw [cats_rv, hnw]; omega) hd (fun H1 locs1 hP hD hS => k H1 locs1 (hRel.wr (h1 := cpI h a0 sp.toNatClampNeg b0 dp.toNatClampNeg n.toNatClampNeg) hb0 hbb rfl hR.1 ?_ (fun x hx => ⟨cpI_row hx, rfl, rfl⟩) hP hD hS))
          have e1 : shp (cpI h a0 sp.toNatClampNeg b0 dp.toNatClampNeg n.toNatClampNeg) b0 = shp h b0 := rfl
          rw [Ecell_arr (by rw [e1]; omega), e1]
          have : (cpI h a0 sp.toNatClampNeg b0 dp.toNatClampNeg n.toNatClampNeg).1 b0 = va_cpy (h.1 a0) (h.1 b0) sp.toNatClampNeg dp.toNatClampNeg n.toNatClampNeg := by
            funext j
            simp [cpI, va_cpy]
          rw [this]
        · cases ha
      · cases ha
    · cases ha
  · have hl := hl.resolve_left (Nat.succ_ne_zero _); subst hl
    split at ha
    · split at ha
      · split at ha <;> cases ha
      · cases ha
    · rename_i w hm
      have hw := mlW _ (lkp_mem hm)
      split at ha
      · split at ha
        · rename_i q0 S0 hcnd
          cases ha
          obtain ⟨z1, z2, z3⟩ := hcnd
          obtain ⟨q1, rfl⟩ : ∃ q1 : Nat, q0 = 1000000 + q1 := ⟨q0 - 1000000, (Nat.add_sub_cancel' z1).symm⟩
          have hi : q1 < 6 := Nat.lt_of_add_lt_add_left (n := 1000000) z2
          have e1 := hRel.2.2.2.2.2.1 _ hi
          refine ⟨rfl, rfl, rfl, cc trivial (c1 hVS), fun k => ?_⟩
          have k2 := k H locs hRel
          rw [Nat.add_sub_cancel_left] at k2
          show W p l e R s m args below meth c H locs cells slots Q (F0 m pc ls (.ref (adr (1000000 + q1)) :: S0.map (rv adr)))
          rw [e1]
          exact st_len C' hT hRel hls hd hw hi (by rw [cats_rv]; exact z3) hfr hlo hc hs k2
        · cases ha
      · cases ha
    · rename_i w hm
      have hw := mlW _ (lkp_mem hm)
      split at ha
      · split at ha
        · rename_i j0 q0 S0 hcnd
          cases ha
          obtain ⟨z1, z2, z3, z4⟩ := hcnd
          obtain ⟨q1, rfl⟩ : ∃ q1 : Nat, q0 = 1000000 + q1 := ⟨q0 - 1000000, (Nat.add_sub_cancel' z1).symm⟩
          have hi : q1 < 6 := Nat.lt_of_add_lt_add_left (n := 1000000) z2
          have e1 := hRel.2.2.2.2.2.1 _ hi
          refine ⟨rfl, rfl, rfl, cc trivial (c1 (c1 hVS)), fun k => ?_⟩
          have k2 := k H locs hRel
          rw [Nat.add_sub_cancel_left] at k2 z4
          show W p l e R s m args below meth c H locs cells slots Q (F0 m pc ls (.int j0 :: .ref (adr (1000000 + q1)) :: S0.map (rv adr)))
          rw [e1]
          exact st_chr C' hT hRel hls hd hw hi z4 (by rw [cats_rv]; exact z3) hfr hlo hc hs k2
        · cases ha
      · cases ha
    · cases ha
  · have hl := hl.resolve_left (Nat.succ_ne_zero _); subst hl
    split at ha
    · split at ha
      · split at ha <;> cases ha
      · cases ha
    · split at ha
      · split at ha <;> cases ha
      · cases ha
    · rename_i w hm
      have hw := mlW _ (lkp_mem hm)
      split at ha
      · split at ha
        · rename_i hcat
          cases ha
          refine ⟨rfl, rfl, rfl, c1 hVS, fun k => W.objInit hx hb hown (hts _ hw) (hts _ w_oi_i) (hts _ w_oi_c) rfl hls rfl hd (by omega) ?_ (k H locs hRel)⟩
          show 2 * 0 + _ + 12 ≤ _
          rw [cats_rv]
          omega
        · cases ha
      · cases ha
    · cases ha
  · cases ha
/-- the heap only grows -/
theorem act_grow {y : Mth} {i : Instr} {L S L' S' : List Value} {h h1 : Hp} (ha : act y i L S h = some (.inl (L', S', h1))) : nxt h ≤ nxt h1 ∧ tot h ≤ tot h1 := by
  have r : nxt h ≤ nxt h ∧ tot h ≤ tot h := ⟨Nat.le_refl _, Nat.le_refl _⟩
  have w : ∀ kd n, nxt h ≤ nxt (newO h kd n) ∧ tot h ≤ tot (newO h kd n) := fun kd n => ⟨by rw [nxt_new]; omega, by rw [tot_new]; omega⟩
  unfold act at ha
  split at ha
  · unfold actLd at ha
    repeat' (split at ha)
    all_goals first
      | (cases ha; done)
      | (cases ha; exact r)
  · unfold actCn at ha
    repeat' (split at ha)
    all_goals first
      | (cases ha; done)
      | (cases ha; exact r)
  · unfold actBr at ha
    repeat' (split at ha)
    all_goals first
      | (cases ha; done)
      | (cases ha; exact r)
  · unfold actHp at ha
    repeat' (split at ha)
    all_goals first
      | (cases ha; done)
      | (cases ha; exact r)
      | (cases ha; exact w _ _)
  · unfold actRt at ha
    repeat' (split at ha)
    all_goals (cases ha; done)
  · unfold actIv at ha
    repeat' (split at ha)
    all_goals first
      | (cases ha; done)
      | (cases ha; exact r)
  · unfold actOp at ha
    repeat' (split at ha)
    all_goals first
      | (cases ha; done)
      | (cases ha; exact r)
theorem run_grow : ∀ (n d : Nat) (y : Mth) (pc : Nat) (L S : List Value) (h : Hp) (v : Option Value) (h1 : Hp), run n d y pc L S h = some (v, h1) → nxt h ≤ nxt h1 ∧ tot h ≤ tot h1 := by
  intro n
  induction n with
  | zero => intro d y pc L S h v h1 hr; simp [run] at hr
  | succ n ih =>
    intro d y pc L S h v h1 hr
    rw [run] at hr
    split at hr
    · split at hr
      · rename_i ha
        have g1 := act_grow ha
        have g2 := ih _ _ _ _ _ _ _ _ hr
        exact ⟨Nat.le_trans g1.1 g2.1, Nat.le_trans g1.2 g2.2⟩
      · split at hr
        · exact ih _ _ _ _ _ _ _ _ hr
        · cases hr
      · cases hr
        exact ⟨Nat.le_refl _, Nat.le_refl _⟩
      · split at hr
        · cases hr
        · split at hr
          · rename_i hc
            have g1 := ih _ _ _ _ _ _ _ _ hc
            have g2 := ih _ _ _ _ _ _ _ _ hr
            exact ⟨Nat.le_trans g1.1 g2.1, Nat.le_trans g1.2 g2.2⟩
          · cases hr
      · cases hr
    · cases hr
end Sim
