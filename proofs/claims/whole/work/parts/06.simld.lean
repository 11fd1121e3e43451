-- loads, stores, constants, arithmetic: the small machine's step is the real one's
def lvOf (adr : Nat → Nat) (L : List Value) : List (Nat × Value) := (List.range L.length).filterMap (fun i => match L[i]? with
  | some v => if v = un then none else some (i, rv adr v)
  | none => none)
theorem lvOf_mem {adr : Nat → Nat} {L : List Value} {q : Nat × Value} : q ∈ lvOf adr L ↔ ∃ v, L[q.1]? = some v ∧ v ≠ un ∧ q.2 = rv adr v := by
  unfold lvOf
  rw [List.mem_filterMap]
  constructor
  · rintro ⟨i, hi, hq⟩
    cases hv : L[i]? with
    | none => rw [hv] at hq; cases hq
    | some v =>
      rw [hv] at hq
      dsimp only at hq
      split at hq
      · cases hq
      · rename_i hne
        cases hq
        exact ⟨v, hv, hne, rfl⟩
  · rintro ⟨v, hv, hne, hq⟩
    refine ⟨q.1, List.mem_range.mpr (List.getElem?_eq_some_iff.mp hv).1, ?_⟩
    rw [hv]
    dsimp only
    rw [if_neg hne, ← hq]
theorem LR_has {adr : Nat → Nat} {L : List Value} {ls : Array Slot} {nL : Nat} (h : LR adr L ls nL) : lv_has ls nL (lvOf adr L) := by
  refine ⟨h.1, h.2.2.1, fun q hq => ?_⟩
  obtain ⟨v, h1, h2, h3⟩ := lvOf_mem.mp hq
  rw [h3]
  exact h.2.2.2 _ _ h1 h2
theorem stL_len (L : List Value) : ∀ (i : Nat) (v : Value), (stL L i v).length = L.length := by
  induction L with
  | nil => intro i v; simp [stL]
  | cons a L ih =>
    intro i v
    cases i with
    | zero => simp [stL]
    | succ i => simp [stL, ih]
theorem stL_get (L : List Value) : ∀ (i j : Nat) (v : Value), (stL L i v)[j]? = if j = i then (if i < L.length then some v else none) else (L[j]?).map (fun a => if j + 1 = i ∧ a.category = 2 then un else a) := by
  induction L with
  | nil => intro i j v; simp [stL]
  | cons a L ih =>
    intro i j v
    cases i with
    | zero =>
      cases j with
      | zero => simp [stL]
      | succ j =>
        simp only [stL, List.getElem?_cons_succ]
        rw [if_neg (by omega)]
        cases L[j]? with
        | none => rfl
        | some a => simp
    | succ i =>
      cases j with
      | zero =>
        simp only [stL, List.getElem?_cons_zero]
        rw [if_neg (show ¬ (0 = i + 1) by omega)]
        simp only [Option.map_some]
        by_cases hi : i = 0
        · subst hi; simp
        · have e1 : ¬ (0 + 1 = i + 1 ∧ a.category = 2) := fun q => hi (by omega)
          have e2 : ¬ (i = 0 ∧ a.category = 2) := fun q => hi q.1
          rw [if_neg e1, if_neg e2]
      | succ j =>
        simp only [stL, List.getElem?_cons_succ]
        rw [ih]
        simp only [List.length_cons, Nat.add_lt_add_iff_right, Nat.add_right_cancel_iff]
theorem LR_st {adr : Nat → Nat} {L : List Value} {ls ls' : Array Slot} {nL i : Nat} {v : Value} (h : LR adr L ls nL) (hi : i < nL) (h' : lv_has ls' nL ((i, rv adr v) :: (lvOf adr L).filter (fun q => !(q.1 == i) && !(q.1 + 1 == i && q.2.category == 2)))) : LR adr (stL L i v) ls' nL := by
  refine ⟨h'.1, by rw [stL_len]; exact h.2.1, h'.2.1, fun j w hj hw => ?_⟩
  rw [stL_get] at hj
  by_cases hji : j = i
  · subst hji
    rw [if_pos rfl, if_pos (by rw [h.2.1]; exact hi)] at hj
    cases hj
    exact h'.2.2 (j, rv adr v) List.mem_cons_self
  · rw [if_neg hji] at hj
    cases ha : L[j]? with
    | none => rw [ha] at hj; cases hj
    | some a =>
      rw [ha] at hj
      simp only [Option.map_some, Option.some.injEq] at hj
      by_cases hc : j + 1 = i ∧ a.category = 2
      · rw [if_pos hc] at hj
        exact absurd hj.symm hw
      · rw [if_neg hc] at hj
        subst hj
        refine h'.2.2 (j, rv adr a) (List.mem_cons_of_mem _ (List.mem_filter.mpr ⟨lvOf_mem.mpr ⟨a, ha, hw, rfl⟩, ?_⟩))
        simp only [rv_cat]
        simp [hji]
        rcases Classical.em (j + 1 = i) with q | q
        · exact Or.inr (fun z => hc ⟨q, z⟩)
        · exact Or.inl q
theorem LR_st2 {adr : Nat → Nat} {L : List Value} {ls ls' : Array Slot} {nL i : Nat} {v : Value} (h : LR adr L ls nL) (hi : i + 1 < nL) (h' : lv_has ls' nL ((i, rv adr v) :: (lvOf adr L).filter (fun q => !(q.1 == i) && (!(q.1 == i + 1) && !(q.1 + 1 == i && q.2.category == 2))))) : LR adr (stL2 L i v) ls' nL := by
  refine ⟨h'.1, by unfold stL2; rw [stL_len, stL_len]; exact h.2.1, h'.2.1, fun j w hj hw => ?_⟩
  unfold stL2 at hj
  rw [stL_get, stL_len, stL_get] at hj
  by_cases hji : j = i
  · subst hji
    rw [if_pos rfl, if_pos (by rw [h.2.1]; omega)] at hj
    cases hj
    exact h'.2.2 (j, rv adr v) List.mem_cons_self
  · rw [if_neg hji] at hj
    by_cases hj1 : j = i + 1
    · subst hj1
      rw [if_pos rfl, if_pos (by rw [h.2.1]; exact hi)] at hj
      simp only [Option.map_some, Option.some.injEq] at hj
      rw [if_neg (by omega)] at hj
      exact absurd hj.symm hw
    · rw [if_neg hj1] at hj
      cases ha : L[j]? with
      | none => rw [ha] at hj; cases hj
      | some a =>
        rw [ha] at hj
        simp only [Option.map_some, Option.some.injEq] at hj
        rw [if_neg (show ¬ (j + 1 = i + 1 ∧ a.category = 2) by omega)] at hj
        by_cases hc : j + 1 = i ∧ a.category = 2
        · rw [if_pos hc] at hj
          exact absurd hj.symm hw
        · rw [if_neg hc] at hj
          subst hj
          refine h'.2.2 (j, rv adr a) (List.mem_cons_of_mem _ (List.mem_filter.mpr ⟨lvOf_mem.mpr ⟨a, ha, hw, rfl⟩, ?_⟩))
          simp only [rv_cat]
          simp [hji, hj1]
          rcases Classical.em (j + 1 = i) with q | q
          · exact Or.inr (fun z => hc ⟨q, z⟩)
          · exact Or.inl q
theorem LR_at {adr : Nat → Nat} {L : List Value} {ls : Array Slot} {nL i : Nat} {v : Value} (h : LR adr L ls nL) (hv : ldL L i = v) (hn : v ≠ un) : ls[i]? = some (.val (rv adr v)) := by
  unfold ldL at hv
  rw [List.getD_eq_getElem?_getD] at hv
  cases ha : L[i]? with
  | none => rw [ha] at hv; exact absurd hv.symm hn
  | some a =>
    rw [ha] at hv
    simp only [Option.getD_some] at hv
    subst hv
    exact h.2.2.2 i a ha hn
theorem stL_mem {L : List Value} : ∀ {i : Nat} {v w : Value}, w ∈ stL L i v → w ∈ L ∨ w = v ∨ w = un := by
  induction L with
  | nil => intro i v w hw; simp [stL] at hw
  | cons a L ih =>
    intro i v w hw
    cases i with
    | zero =>
      simp only [stL, List.mem_cons] at hw ⊢
      rcases hw with h | h
      · exact Or.inr (Or.inl h)
      · exact Or.inl (Or.inr h)
    | succ i =>
      simp only [stL, List.mem_cons] at hw ⊢
      rcases hw with h | h
      · split at h
        · exact Or.inr (Or.inr h)
        · exact Or.inl (Or.inl h)
      · rcases ih h with h | h | h
        · exact Or.inl (Or.inr h)
        · exact Or.inr (Or.inl h)
        · exact Or.inr (Or.inr h)
theorem ldL_mem {L : List Value} {i : Nat} {v : Value} (hv : ldL L i = v) : v ∈ L ∨ v = un := by
  unfold ldL at hv
  rw [List.getD_eq_getElem?_getD] at hv
  cases ha : L[i]? with
  | none => rw [ha] at hv; exact Or.inr hv.symm
  | some a =>
    rw [ha] at hv
    simp only [Option.getD_some] at hv
    subst hv
    exact Or.inl (List.mem_of_getElem? ha)
def VK (h : Hp) (L : List Value) : Prop := ∀ v ∈ L, vok h v
section SimLd
variable {p : Program} {l : Launch} {e : Env} {R : Room} {s : State} {m : MethodId} {args : Array Value} {below : List Frame} {meth : Method} {c : Code} {Q : State → Prop} {y : Mth} {pc len : Nat} {i : Instr} {L S L' S' : List Value} {h h1 : Hp} {H : Heap} {locs : List Loc} {cells slots : Nat} {ls : Array Slot} {adr : Nat → Nat}
theorem ld_sim (C : Cx p s m args meth c y) (hd : decode y.2.2.2.1 pc = .ok (i, len)) (hl : ilen i = 0 ∨ len = ilen i) (ha : actLd i L S h = some (.inl (L', S', h1))) (hL : LR adr L ls y.2.2.2.2.1) (hV : VK h L) (hVS : VK h S) : h1 = h ∧ VK h L' ∧ VK h S' ∧ ((∀ ls', LR adr L' ls' y.2.2.2.2.1 → W p l e R s m args below meth c H locs cells slots Q (F0 m (pc + len) ls' (S'.map (rv adr)))) → W p l e R s m args below meth c H locs cells slots Q (F0 m pc ls (S.map (rv adr)))) := by
  obtain ⟨hx, hb, hml, -⟩ := C
  have uv : vok h un := trivial
  unfold actLd at ha
  split at ha
  · have hl := hl.resolve_left (Nat.succ_ne_zero _); subst hl
    split at ha
    · rename_i k0 x hx0
      cases ha
      exact ⟨rfl, hV, List.forall_mem_cons.mpr ⟨trivial, hVS⟩, fun k => lv_iload hx hb hd (LR_at hL hx0 (by simp)) (k ls hL)⟩
    · cases ha
  · have hl := hl.resolve_left (Nat.succ_ne_zero _); subst hl
    split at ha
    · rename_i k0 x hx0
      cases ha
      exact ⟨rfl, hV, List.forall_mem_cons.mpr ⟨trivial, hVS⟩, fun k => lv_iload_n hx hb hd rfl (LR_at hL hx0 (by simp)) (k ls hL)⟩
    · cases ha
  · have hl := hl.resolve_left (Nat.succ_ne_zero _); subst hl
    split at ha
    · rename_i k0 x hx0
      cases ha
      exact ⟨rfl, hV, List.forall_mem_cons.mpr ⟨trivial, hVS⟩, fun k => lv_lload hx hb hd (LR_at hL hx0 (by simp)) (k ls hL)⟩
    · cases ha
  · have hl := hl.resolve_left (Nat.succ_ne_zero _); subst hl
    split at ha
    · rename_i k0 x hx0
      cases ha
      exact ⟨rfl, hV, List.forall_mem_cons.mpr ⟨trivial, hVS⟩, fun k => lv_lload_n hx hb hd rfl (LR_at hL hx0 (by simp)) (k ls hL)⟩
    · cases ha
  · have hl := hl.resolve_left (Nat.succ_ne_zero _); subst hl
    split at ha
    · rename_i k0 x hx0
      cases ha
      exact ⟨rfl, hV, List.forall_mem_cons.mpr ⟨(ldL_mem hx0).elim (fun q => hV _ q) (fun q => by cases q), hVS⟩, fun k => lv_aload hx hb hd (LR_at hL hx0 (by simp)) (k ls hL)⟩
    · cases ha
  · have hl := hl.resolve_left (Nat.succ_ne_zero _); subst hl
    split at ha
    · rename_i k0 x hx0
      cases ha
      exact ⟨rfl, hV, List.forall_mem_cons.mpr ⟨(ldL_mem hx0).elim (fun q => hV _ q) (fun q => by cases q), hVS⟩, fun k => lv_aload_n hx hb hd rfl (LR_at hL hx0 (by simp)) (k ls hL)⟩
    · cases ha
  · have hl := hl.resolve_left (Nat.succ_ne_zero _); subst hl
    split at ha
    · split at ha
      · rename_i x S0 hk
        cases ha
        rw [hL.2.1] at hk
        exact ⟨rfl, fun w hw => (stL_mem hw).elim (hV w) (fun q => q.elim (fun q => by rw [q]; trivial) (fun q => by rw [q]; trivial)), (List.forall_mem_cons.mp hVS).2, fun k => lv_istore hx hb hd (LR_has hL) hk rfl (fun ls' h' => k ls' (LR_st hL hk h'))⟩
      · cases ha
    · cases ha
  · have hl := hl.resolve_left (Nat.succ_ne_zero _); subst hl
    split at ha
    · split at ha
      · rename_i x S0 hk
        cases ha
        rw [hL.2.1] at hk
        exact ⟨rfl, fun w hw => (stL_mem hw).elim (hV w) (fun q => q.elim (fun q => by rw [q]; trivial) (fun q => by rw [q]; trivial)), (List.forall_mem_cons.mp hVS).2, fun k => lv_istore_n hx hb hd rfl (LR_has hL) hk rfl (fun ls' h' => k ls' (LR_st hL hk h'))⟩
      · cases ha
    · cases ha
  · have hl := hl.resolve_left (Nat.succ_ne_zero _); subst hl
    split at ha
    · split at ha
      · rename_i x S0 hk
        cases ha
        rw [hL.2.1] at hk
        exact ⟨rfl, fun w hw => (stL_mem hw).elim (fun q => (stL_mem q).elim (hV w) (fun q => q.elim (fun q => by rw [q]; trivial) (fun q => by rw [q]; trivial))) (fun q => q.elim (fun q => by rw [q]; trivial) (fun q => by rw [q]; trivial)), (List.forall_mem_cons.mp hVS).2, fun k => lv_lstore hx hb hd (LR_has hL) hk rfl (fun ls' h' => k ls' (LR_st2 hL hk h'))⟩
      · cases ha
    · cases ha
  · have hl := hl.resolve_left (Nat.succ_ne_zero _); subst hl
    split at ha
    · split at ha
      · rename_i x S0 hk
        cases ha
        rw [hL.2.1] at hk
        exact ⟨rfl, fun w hw => (stL_mem hw).elim (fun q => (stL_mem q).elim (hV w) (fun q => q.elim (fun q => by rw [q]; trivial) (fun q => by rw [q]; trivial))) (fun q => q.elim (fun q => by rw [q]; trivial) (fun q => by rw [q]; trivial)), (List.forall_mem_cons.mp hVS).2, fun k => lv_lstore_n hx hb hd rfl (LR_has hL) hk rfl (fun ls' h' => k ls' (LR_st2 hL hk h'))⟩
      · cases ha
    · cases ha
  · have hl := hl.resolve_left (Nat.succ_ne_zero _); subst hl
    split at ha
    · split at ha
      · rename_i x S0 hk
        cases ha
        rw [hL.2.1] at hk
        exact ⟨rfl, fun w hw => (stL_mem hw).elim (hV w) (fun q => q.elim (fun q => by rw [q]; exact (List.forall_mem_cons.mp hVS).1) (fun q => by rw [q]; trivial)), (List.forall_mem_cons.mp hVS).2, fun k => lv_astore hx hb hd (LR_has hL) hk rfl (fun ls' h' => k ls' (LR_st hL hk h'))⟩
      · cases ha
    · cases ha
  · have hl := hl.resolve_left (Nat.succ_ne_zero _); subst hl
    split at ha
    · split at ha
      · rename_i x S0 hk
        cases ha
        rw [hL.2.1] at hk
        exact ⟨rfl, fun w hw => (stL_mem hw).elim (hV w) (fun q => q.elim (fun q => by rw [q]; exact (List.forall_mem_cons.mp hVS).1) (fun q => by rw [q]; trivial)), (List.forall_mem_cons.mp hVS).2, fun k => lv_astore_n hx hb hd rfl (LR_has hL) hk rfl (fun ls' h' => k ls' (LR_st hL hk h'))⟩
      · cases ha
    · cases ha
  · have hl := hl.resolve_left (Nat.succ_ne_zero _); subst hl
    split at ha
    · split at ha
      · rename_i k0 n0 v0 x hx0 hk
        cases ha
        rw [hL.2.1] at hk
        have hm : (k0, Value.int x) ∈ lvOf adr L := lvOf_mem.mpr ⟨.int x, by
          have := hx0
          unfold ldL at this
          rw [List.getD_eq_getElem?_getD] at this
          cases hz : L[k0]? with
          | none => rw [hz] at this; cases this
          | some a => rw [hz] at this; simp only [Option.getD_some] at this; rw [this], by simp, rfl⟩
        obtain ⟨kk, hkk⟩ := List.getElem?_of_mem hm
        exact ⟨rfl, fun w hw => (stL_mem hw).elim (hV w) (fun q => q.elim (fun q => by rw [q]; trivial) (fun q => by rw [q]; trivial)), hVS, fun k => lv_iinc hx hb hd (LR_has hL) hkk rfl hk rfl (fun ls' h' => k ls' (LR_st hL hk h'))⟩
      · cases ha
    · cases ha
  · cases ha
theorem op_sim (C : Cx p s m args meth c y) (hd : decode y.2.2.2.1 pc = .ok (i, len)) (hl : ilen i = 0 ∨ len = ilen i) (ha : actOp i L S h = some (.inl (L', S', h1))) (hVS : VK h S) : h1 = h ∧ L' = L ∧ VK h S' ∧ (W p l e R s m args below meth c H locs cells slots Q (F0 m (pc + len) ls (S'.map (rv adr))) → W p l e R s m args below meth c H locs cells slots Q (F0 m pc ls (S.map (rv adr)))) := by
  obtain ⟨hx, hb, hml, -⟩ := C
  have c1 : ∀ {a : Value} {S : List Value}, VK h (a :: S) → VK h S := fun q => (List.forall_mem_cons.mp q).2
  have c2 : ∀ {a b : Value} {S : List Value}, VK h (a :: b :: S) → VK h S := fun q => c1 (c1 q)
  have ci : ∀ {x : Int32} {S : List Value}, VK h S → VK h (.int x :: S) := fun q => List.forall_mem_cons.mpr ⟨trivial, q⟩
  have cj : ∀ {x : Int64} {S : List Value}, VK h S → VK h (.long x :: S) := fun q => List.forall_mem_cons.mpr ⟨trivial, q⟩
  unfold actOp at ha
  split at ha
  · have hl := hl.resolve_left (Nat.succ_ne_zero _); subst hl; cases ha; exact ⟨rfl, rfl, ci (c2 hVS), fun k => lv_iadd hx hb hd k⟩
  · have hl := hl.resolve_left (Nat.succ_ne_zero _); subst hl; cases ha; exact ⟨rfl, rfl, ci (c2 hVS), fun k => lv_isub hx hb hd k⟩
  · have hl := hl.resolve_left (Nat.succ_ne_zero _); subst hl; cases ha; exact ⟨rfl, rfl, ci (c2 hVS), fun k => lv_imul hx hb hd k⟩
  · have hl := hl.resolve_left (Nat.succ_ne_zero _); subst hl; cases ha; exact ⟨rfl, rfl, ci (c2 hVS), fun k => lv_iand hx hb hd k⟩
  · have hl := hl.resolve_left (Nat.succ_ne_zero _); subst hl; cases ha; exact ⟨rfl, rfl, ci (c2 hVS), fun k => lv_ior hx hb hd k⟩
  · have hl := hl.resolve_left (Nat.succ_ne_zero _); subst hl; cases ha; exact ⟨rfl, rfl, ci (c2 hVS), fun k => lv_ixor hx hb hd k⟩
  · have hl := hl.resolve_left (Nat.succ_ne_zero _); subst hl; cases ha; exact ⟨rfl, rfl, ci (c2 hVS), fun k => lv_ishl hx hb hd k⟩
  · have hl := hl.resolve_left (Nat.succ_ne_zero _); subst hl; cases ha; exact ⟨rfl, rfl, ci (c2 hVS), fun k => lv_ishr hx hb hd k⟩
  · have hl := hl.resolve_left (Nat.succ_ne_zero _); subst hl; cases ha; exact ⟨rfl, rfl, ci (c2 hVS), fun k => lv_iushr hx hb hd rfl k⟩
  · have hl := hl.resolve_left (Nat.succ_ne_zero _); subst hl; split at ha
    · cases ha
    · rename_i hne; cases ha; exact ⟨rfl, rfl, ci (c2 hVS), fun k => lv_idiv hx hb hd hne k⟩
  · have hl := hl.resolve_left (Nat.succ_ne_zero _); subst hl; split at ha
    · cases ha
    · rename_i hne; cases ha; exact ⟨rfl, rfl, ci (c2 hVS), fun k => lv_irem hx hb hd hne k⟩
  · have hl := hl.resolve_left (Nat.succ_ne_zero _); subst hl; cases ha; exact ⟨rfl, rfl, cj (c2 hVS), fun k => lv_lsub hx hb hd k⟩
  · have hl := hl.resolve_left (Nat.succ_ne_zero _); subst hl; cases ha; exact ⟨rfl, rfl, cj (c2 hVS), fun k => lv_land hx hb hd k⟩
  · have hl := hl.resolve_left (Nat.succ_ne_zero _); subst hl; cases ha; exact ⟨rfl, rfl, cj (c2 hVS), fun k => lv_lor hx hb hd k⟩
  · have hl := hl.resolve_left (Nat.succ_ne_zero _); subst hl; cases ha; exact ⟨rfl, rfl, cj (c2 hVS), fun k => lv_lxor hx hb hd k⟩
  · have hl := hl.resolve_left (Nat.succ_ne_zero _); subst hl; cases ha; exact ⟨rfl, rfl, cj (c2 hVS), fun k => lv_lshl hx hb hd rfl k⟩
  · have hl := hl.resolve_left (Nat.succ_ne_zero _); subst hl; cases ha; exact ⟨rfl, rfl, cj (c2 hVS), fun k => lv_lushr hx hb hd rfl k⟩
  · have hl := hl.resolve_left (Nat.succ_ne_zero _); subst hl; cases ha; exact ⟨rfl, rfl, ci (c2 hVS), fun k => W.lcmp hx hb hd k⟩
  · have hl := hl.resolve_left (Nat.succ_ne_zero _); subst hl; cases ha; exact ⟨rfl, rfl, cj (c1 hVS), fun k => lv_i2l hx hb hd rfl k⟩
  · have hl := hl.resolve_left (Nat.succ_ne_zero _); subst hl; cases ha; exact ⟨rfl, rfl, ci (c1 hVS), fun k => lv_l2i hx hb hd rfl k⟩
  · have hl := hl.resolve_left (Nat.succ_ne_zero _); subst hl; cases ha; exact ⟨rfl, rfl, ci (c1 hVS), fun k => lv_i2b hx hb hd rfl k⟩
  · have hl := hl.resolve_left (Nat.succ_ne_zero _); subst hl; split at ha
    · rename_i hc; cases ha; exact ⟨rfl, rfl, List.forall_mem_cons.mpr ⟨(List.forall_mem_cons.mp hVS).1, hVS⟩, fun k => lv_dup hx hb hd (by rw [rv_cat]; exact hc) k⟩
    · cases ha
  · have hl := hl.resolve_left (Nat.succ_ne_zero _); subst hl; split at ha
    · rename_i hc; cases ha; exact ⟨rfl, rfl, c1 hVS, fun k => lv_pop hx hb hd (by rw [rv_cat]; exact hc) k⟩
    · cases ha
  · have hl := hl.resolve_left (Nat.succ_ne_zero _); subst hl; split at ha
    · rename_i hc; cases ha; exact ⟨rfl, rfl, List.forall_mem_cons.mpr ⟨(List.forall_mem_cons.mp hVS).1, List.forall_mem_cons.mpr ⟨(List.forall_mem_cons.mp (c1 hVS)).1, hVS⟩⟩, fun k => lv_dup2_11 hx hb hd (by rw [rv_cat]; exact hc.1) (by rw [rv_cat]; exact hc.2) k⟩
    · cases ha
  · cases ha
end SimLd
