-- calls and returns
theorem va_Zq.moved2 {C n d : String} {A : Nat → Prop} {u U : State} {H : Heap} (hvm : u.vm.Alike U.vm) (h : va_Zq C n d A u H) : va_Zq C n d A U H := h.elim (fun q => Or.inl (q.moved hvm)) (fun ⟨t, q⟩ => Or.inr ⟨t, q.moved hvm⟩)
theorem va_Zq.kept2 {C n d : String} {A : Nat → Prop} {U : State} {H H1 : Heap} (hq : ∀ a : Nat, a < H.size → ¬ A a → H1[a]? = H[a]?) (h : va_Zq C n d A U H) : va_Zq C n d A U H1 := h.elim (fun q => Or.inl (q.kept hq)) (fun ⟨t, q⟩ => Or.inr ⟨t, q.kept hq⟩)
theorem va_Zq.narrow2 {C n d : String} {A B : Nat → Prop} {U : State} {H : Heap} (hAB : ∀ q, B q → A q) (h : va_Zq C n d A U H) : va_Zq C n d B U H := h.elim (fun q => Or.inl (q.narrow hAB)) (fun ⟨t, q⟩ => Or.inr ⟨t, q.narrow hAB⟩)
theorem Tb.moved {D : va_G} {A A1 : Nat → Prop} {b N0 : Nat} {xs : Nat → Int32} {aK aV : Nat → Nat} {s U : State} {H : Heap} {locs : List Loc} (hT : Tb D A b N0 xs aK aV s) (hS : va_S A s.heap H locs) (hU : U.heap = H) (hW : s.WarmedH U.vm) (hAA : ∀ q, A1 q → A q) (hA1 : ∀ q, U.heap.size ≤ q → A1 q) : Tb D A1 b N0 xs aK aV U := by
  obtain ⟨t1, t2, t3, t4, t5, t6, t7, t8, t9, t10, t11⟩ := hT
  refine ⟨va_K.moved hW.alike t1, fun e he h3 => (t2 e he h3).warmM hW, fun kd hk => (t3 kd hk).moved hW.alike, fun e he => (t4 e he).warm hW, ?_, ?_, fun q => t7 (hAA b q), hA1, ?_, ?_, ?_⟩
  · rw [hU]; exact (t5.moved hW.alike).kept (hS.2.1 b t6 t7)
  · rw [hU]; exact Nat.lt_of_lt_of_le t6 hS.1
  · rw [hU]; exact ((t9.moved hW.alike).kept hS.2.1).narrow hAA
  · rw [hU]; exact ((t10.moved hW.alike).kept hS.2.1).narrow hAA
  · rw [hU]; exact va_Zq.narrow2 hAA (va_Zq.kept2 hS.2.1 (va_Zq.moved2 hW.alike t11))
theorem Tb.same {D : va_G} {A : Nat → Prop} {b N0 : Nat} {xs : Nat → Int32} {aK aV : Nat → Nat} {s U : State} (hT : Tb D A b N0 xs aK aV s) (hv : U.vm = s.vm) (hh : U.heap = s.heap) : Tb D A b N0 xs aK aV U := by
  obtain ⟨t1, t2, t3, t4, t5, t6, t7, t8, t9, t10, t11⟩ := hT
  have ha : s.vm.Alike U.vm := by rw [hv]; exact Vm.Alike.refl _
  refine ⟨va_K.moved ha t1, fun e he h3 => (t2 e he h3).same rfl hv.symm, fun kd hk => (t3 kd hk).moved ha, fun e he => (t4 e he).same hv, ?_, ?_, t7, ?_, ?_, ?_, ?_⟩
  · rw [hh]; exact t5.moved ha
  · rw [hh]; exact t6
  · rw [hh]; exact t8
  · rw [hh]; exact t9.moved ha
  · rw [hh]; exact t10.moved ha
  · rw [hh]; exact va_Zq.moved2 ha t11
/-- the relation, told of another state with the same tables and another frame -/
theorem Rel.to {D : va_G} {A A1 : Nat → Prop} {b N0 : Nat} {xs : Nat → Int32} {aK : Nat → Nat} {s t : State} {adr : Nat → Nat} {cA : Nat → ClassId} {H : Heap} {locs locs1 : List Loc} {h : Hp} (hR : Rel D A b N0 xs aK s adr cA H locs h) (hv : s.vm.Alike t.vm) (hA : ∀ (k : Nat) (q : Nat × va_E), (wsO adr cA h)[k]? = some q → A q.1 → A1 q.1) (hS : va_S A1 t.heap H locs1) : Rel D A1 b N0 xs aK t adr cA H locs1 h := by
  obtain ⟨r1, r2, r3, r4, r5⟩ := hR
  exact ⟨r1, r2.weaken hA, hS, fun a h0 h1 h2 h3 => ⟨arrOfT_moved hv (r4 a h0 h1 h2 h3).1, (r4 a h0 h1 h2 h3).2.moved hv⟩, r5⟩
def rmD (d mc ms : Nat) : Room := { frames := d + 5, cells := mc, slots := ms, locals := 64 * (d + 5) }
def PcR (D : va_G) (b N0 : Nat) (xs : Nat → Int32) (aK aV : Nat → Nat) (as : List Value) (h : Hp) (adr : Nat → Nat) (cA : Nat → ClassId) (sz : Nat) : Array Value → State → Prop :=
  va_Pc (as.map (rv adr)) (fun U => U.heap.size = sz ∧ Tb D (va_A (wsO adr cA h) sz) b N0 xs aK aV U ∧ Rel D (va_A (wsO adr cA h) sz) b N0 xs aK U adr cA U.heap [] h)
def QcR (D : va_G) (b N0 : Nat) (xs : Nat → Int32) (aK : Nat → Nat) (h h' : Hp) (v : Option Value) (adr : Nat → Nat) (cA : Nat → ClassId) (sz : Nat) : Array Value → State → Outcome → State → Prop :=
  fun _ st o t => (∃ adr' cA', o = .returned (v.map (rv adr')) ∧ (∀ a, a < nxt h → adr' a = adr a) ∧ (∀ a, 1000000 ≤ a → adr' a = adr a) ∧ Rel D (va_A (wsO adr cA h) sz) b N0 xs aK t adr' cA' t.heap [] h') ∧ va_F (va_A (wsO adr cA h) sz) st t
theorem PcR_blind {D : va_G} {b N0 : Nat} {xs : Nat → Int32} {aK aV : Nat → Nat} {as : List Value} {h : Hp} {adr : Nat → Nat} {cA : Nat → ClassId} {sz : Nat} : FrameBlind (PcR D b N0 xs aK aV as h adr cA sz) := by
  intro a U g mk ⟨h1, h2, h3, h4⟩
  exact ⟨h1, h2, h3.same rfl rfl, h4.to (Vm.Alike.refl _) (fun _ _ _ q => q) va_S.rf⟩
theorem spread_at (adr : Nat → Nat) (as : List Value) : (lg_sl (as.map (rv adr))).length = (spread as).length ∧ ∀ (i : Nat) (v : Value), (spread as)[i]? = some v → v ≠ un → (lg_sl (as.map (rv adr)))[i]? = some (.val (rv adr v)) := by
  induction as with
  | nil => exact ⟨rfl, fun i v h => by simp [spread] at h⟩
  | cons a as ih =>
    have e1 : lg_sl ((a :: as).map (rv adr)) = (if a.category = 2 then [Slot.val (rv adr a), Slot.second] else [Slot.val (rv adr a)]) ++ lg_sl (as.map (rv adr)) := by
      simp only [lg_sl, List.map_cons, List.flatMap_cons, rv_cat]
    have e2 : spread (a :: as) = (if a.category = 2 then [a, un] else [a]) ++ spread as := by simp only [spread, List.flatMap_cons]
    rw [e1, e2]
    by_cases hc : a.category = 2
    · rw [if_pos hc, if_pos hc]
      refine ⟨by simp [ih.1], fun i v hv hn => ?_⟩
      match i with
      | 0 => simp at hv; subst hv; simp
      | 1 => simp at hv; exact absurd hv.symm hn
      | i + 2 => simp at hv ⊢; exact ih.2 i v hv hn
    · rw [if_neg hc, if_neg hc]
      refine ⟨by simp [ih.1], fun i v hv hn => ?_⟩
      match i with
      | 0 => simp at hv; subst hv; simp
      | i + 1 => simp at hv ⊢; exact ih.2 i v hv hn
theorem LR_ent {adr : Nat → Nat} {as : List Value} {n : Nat} (hn : (spread as).length ≤ n) : LR adr (ent as n) ((lg_sl (as.map (rv adr)) ++ List.replicate (n - (lg_sl (as.map (rv adr))).length) Slot.unset).toArray) n := by
  obtain ⟨s1, s2⟩ := spread_at adr as
  have hl := lv_entry (as.map (rv adr)) (n := n) (by rw [s1]; exact hn)
  refine ⟨hl.1, ?_, hl.2.1, fun i v hi hv => ?_⟩
  · unfold ent
    rw [List.length_append, List.length_replicate]
    omega
  · unfold ent at hi
    rcases Nat.lt_or_ge i (spread as).length with q | q
    · rw [List.getElem?_append_left q] at hi
      rw [List.getElem?_toArray, List.getElem?_append_left (by rw [s1]; exact q)]
      exact s2 i v hi hv
    · rw [List.getElem?_append_right q] at hi
      exact absurd (List.eq_of_mem_replicate (List.mem_of_getElem? hi)) hv
section SimCl
variable {p : Program} {l : Launch} {e : Env} {R : Room} {s : State} {m : MethodId} {args : Array Value} {below : List Frame} {meth : Method} {c : Code} {Q : State → Prop} {D : va_G} {A : Nat → Prop} {b N0 : Nat} {xs : Nat → Int32} {aK aV : Nat → Nat} {y : Mth} {pc len : Nat} {i : Instr} {L S L' S' : List Value} {h h1 : Hp} {H : Heap} {locs : List Loc} {cells slots : Nat} {ls : Array Slot} {adr : Nat → Nat} {cA : Nat → ClassId}
/-- behind a call -/
theorem cl_on {mc ms : Nat} {a : Array Value} {rest st0 : List Value} {v : Option Value} (hT : Tb D A b N0 xs aK aV s) (hRel : Rel D A b N0 xs aK s adr cA H locs h) (hr : va_Run p l e R s m args below meth c H locs cells slots mc ms (F0 m pc ls st0) rest (QcR D b N0 xs aK h h1 v adr cA H.size a) (va_A (wsO adr cA h) H.size))
    (kk : ∀ H1 locs1 adr1 cA1, Rel D A b N0 xs aK s adr1 cA1 H1 locs1 h1 → (∀ a, a < nxt h → adr1 a = adr a) → (∀ a, 1000000 ≤ a → adr1 a = adr a) → W p l e R s m args below meth c H1 locs1 (cells + mc) (slots + ms) Q (F0 m (pc + 3) ls ((v.map (rv adr1)).toList ++ rest))) : W p l e R s m args below meth c H locs cells slots Q (F0 m pc ls st0) := by
  have hAA : ∀ q, va_A (wsO adr cA h) H.size q → A q := by
    rintro q (⟨k, e, hk⟩ | hq)
    · exact hRel.2.1.2 k _ hk
    · exact hT.2.2.2.2.2.2.2.1 q (Nat.le_trans hRel.2.2.1.1 hq)
  have hS := hRel.2.2.1
  intro T hT0 X
  obtain ⟨v', st₀, t, T', L, h0, X', hL, e1, e2, ⟨⟨adr1, cA1, hv, g1, g2, g3⟩, hz, hk⟩, st⟩ := hr T hT0 X
  have hv' : v' = v.map (rv adr1) := by injection hv
  subst hv'
  rw [h0] at hz hk
  have hva : t.vm.Alike s.vm := by rw [← e2]; exact X'.warmed.alike.symm
  obtain ⟨t2, a1, b1⟩ := kk T'.heap (locs ++ L) adr1 cA1 (by
    rw [e1]
    refine g3.to hva (fun k q _ hq => hAA _ hq) ⟨Nat.le_trans hS.1 hz, fun q h1 h2 => ?_, fun q hq => ?_⟩
    · rw [hk q (Nat.lt_of_lt_of_le h1 hS.1) (fun z => h2 (hAA q z))]
      exact hS.2.1 q h1 h2
    · rcases List.mem_append.mp hq with h | h
      · exact hS.2.2 q h
      · exact hAA _ (hL q h)) g1 g2 T' rfl X'
  exact ⟨t2, st t2 a1, b1⟩
/-- what a callee asks holds here -/
theorem cl_pre {as : List Value} (hT : Tb D A b N0 xs aK aV s) (hRel : Rel D A b N0 xs aK s adr cA H locs h) (U : State) (hU : U.heap = H) (hW : s.WarmedH U.vm) : PcR D b N0 xs aK aV as h adr cA H.size (as.map (rv adr)).toArray U := by
  have hAA : ∀ q, va_A (wsO adr cA h) H.size q → A q := by
    rintro q (⟨k, e, hk⟩ | hq)
    · exact hRel.2.1.2 k _ hk
    · exact hT.2.2.2.2.2.2.2.1 q (Nat.le_trans hRel.2.2.1.1 hq)
  refine ⟨rfl, by rw [hU], hT.moved hRel.2.2.1 hU hW hAA (fun q hq => Or.inr (by rw [← hU]; exact hq)), ?_⟩
  rw [hU]
  exact hRel.to hW.alike (fun k q hk _ => va_A.in hk) (by rw [hU]; exact va_S.rf)
/-- a callee's contract out of its walk -/
theorem cl_met {y' : Mth} {as : List Value} {v : Option Value} {d : Nat} {sz : Nat} (hy : PY y') (hsp : (spread as).length ≤ y'.2.2.2.2.1)
    (hw : ∀ (p : Program) (e : Env) (s : State) (m : MethodId) (args : Array Value) (below : List Frame) (meth : Method) (c : Code) (ls : Array Slot), Cx p s m args meth c y' → Tb D (va_A (wsO adr cA h) sz) b N0 xs aK aV s → Rel D (va_A (wsO adr cA h) sz) b N0 xs aK s adr cA s.heap [] h → LR adr (ent as y'.2.2.2.2.1) ls y'.2.2.2.2.1 → W p l e (rmD d (nxt h1 - nxt h) (tot h1 - tot h)) s m args below meth c s.heap [] 0 0 (MQ below (QcR D b N0 xs aK h h1 v adr cA sz) args s (nxt h1 - nxt h) (tot h1 - tot h) (va_A (wsO adr cA h) sz)) (F0 m 0 ls [])) :
    Met l y'.2.2.1 (.code y'.2.2.1 y'.2.2.2.1 y'.2.2.2.2.1 y'.2.2.2.2.2 :: gt) (rmD d (nxt h1 - nxt h) (tot h1 - tot h)) (PcR D b N0 xs aK aV as h adr cA sz) (QcR D b N0 xs aK h h1 v adr cA sz) (nxt h1 - nxt h) (tot h1 - tot h) (va_A (wsO adr cA h) sz) := by
  refine Met.ofW (cc := y'.2.2.2.1) (maxL := y'.2.2.2.2.1) (ret := y'.2.2.2.2.2) hy.2.2.2.2.2.2 rfl ?_
  intro p e s m args below meth c s₁ B hml hv
  obtain ⟨rfl, hsz, hTb, hRel⟩ := hv
  have hts := atoms_spec (ws := .code y'.2.2.1 y'.2.2.2.1 y'.2.2.2.2.1 y'.2.2.2.2.2 :: gt) B.pre
  have hown : s.vm.findClass y'.2.2.1.cls = some m.cls := findClass_of_methodNamed B.named
  rw [lg_entry_eq]
  refine hw p e s m _ below meth c _ ⟨B.exec, B.bytes, hml, by rw [hy.2.2.2.1]; exact hown, fun w hw => hts w (List.mem_cons_of_mem _ hw), B.returns, fun hi => ?_, B.notSynchronized⟩ hTb hRel (LR_ent hsp)
  rw [(name_of_methodNamed B.named B.method).1]
  exact hy.2.2.2.2.2.1 hi
/-- the return of a callee -/
theorem cl_ret {v : Option Value} {sz mc ms : Nat} {h0 : Hp} {adr0 : Nat → Nat} {cA0 : Nat → ClassId} (C : Cx p s m args meth c y) (hd : decode y.2.2.2.1 pc = .ok (i, len)) (hl : ilen i = 0 ∨ len = ilen i) (ha : actRt y i S = some (.inr (.inr (.inl v)))) (hRel : Rel D (va_A (wsO adr0 cA0 h0) sz) b N0 xs aK s adr cA H locs h) (hc : cells ≤ mc) (hs : slots ≤ ms) (g1 : ∀ a, a < nxt h0 → adr a = adr0 a) (g2 : ∀ a, 1000000 ≤ a → adr a = adr0 a) :
    W p l e R s m args below meth c H locs cells slots (MQ below (QcR D b N0 xs aK h0 h v adr0 cA0 sz) args s mc ms (va_A (wsO adr0 cA0 h0) sz)) (F0 m pc ls (S.map (rv adr))) := by
  obtain ⟨hx, hb, hml, hown, hts, hrt, hin, hlk⟩ := C
  refine W.widen hc hs ?_
  have hq : ∀ v0 : Option Value, v0 = v → ∀ t : State, t.heap = H → s.WarmedH t.vm → QcR D b N0 xs aK h0 h v adr0 cA0 sz args s (.returned (v0.map (rv adr))) t := by
    intro v0 hv0 t ht hW
    subst hv0
    refine ⟨⟨adr, cA, rfl, g1, g2, ?_⟩, hRel.2.2.1.F ht⟩
    rw [ht]
    exact hRel.to hW.alike (fun _ _ _ q => q) (by rw [ht]; exact va_S.rf)
  unfold actRt at ha
  split at ha
  · have hl := hl.resolve_left (Nat.succ_ne_zero _); subst hl
    split at ha
    · rename_i w hcnd
      cases ha
      rcases hcnd with hcnd | ⟨hcnd, hw⟩
      · exact W.zret (v := w) (ty := .int) hx hb (hrt.trans hcnd) rfl (hq (some (.int w)) rfl) hRel.2.2.1.2.2 hd
      · exact W.zret (v := w) (ty := .boolean) hx hb (hrt.trans hcnd) (by rcases hw with rfl | rfl <;> rfl) (hq (some (.int w)) rfl) hRel.2.2.1.2.2 hd
    · cases ha
  · have hl := hl.resolve_left (Nat.succ_ne_zero _); subst hl
    split at ha
    · rename_i w hcnd
      cases ha
      exact W.lret (v := w) hx hb (hrt.trans hcnd) (hq (some (.long w)) rfl) hRel.2.2.1.2.2 hd
    · cases ha
  · have hl := hl.resolve_left (Nat.succ_ne_zero _); subst hl
    split at ha
    · rename_i hcnd
      cases ha
      exact W.vret hx hb (hrt.trans hcnd) (hq none rfl) hRel.2.2.1.2.2 hd
    · cases ha
  · cases ha
end SimCl
