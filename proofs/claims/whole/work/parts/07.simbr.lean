-- constants and branches
section SimBr
variable {p : Program} {l : Launch} {e : Env} {R : Room} {s : State} {m : MethodId} {args : Array Value} {below : List Frame} {meth : Method} {c : Code} {Q : State → Prop} {D : va_G} {A : Nat → Prop} {b N0 : Nat} {xs : Nat → Int32} {aK aV : Nat → Nat} {y : Mth} {pc len : Nat} {i : Instr} {L S L' S' : List Value} {h h1 : Hp} {H : Heap} {locs : List Loc} {cells slots : Nat} {ls : Array Slot} {adr : Nat → Nat}
theorem cn_sim (C : Cx p s m args meth c y) (hT : Tb D A b N0 xs aK aV s) (hK : ∀ i, i < 6 → adr (1000000 + i) = aK i) (hd : decode y.2.2.2.1 pc = .ok (i, len)) (hl : ilen i = 0 ∨ len = ilen i) (ha : actCn y.1 i L S h = some (.inl (L', S', h1))) (hVS : VK h S) : h1 = h ∧ L' = L ∧ VK h S' ∧ (W p l e R s m args below meth c H locs cells slots Q (F0 m (pc + len) ls (S'.map (rv adr))) → W p l e R s m args below meth c H locs cells slots Q (F0 m pc ls (S.map (rv adr)))) := by
  obtain ⟨hx, hb, hml, hown, hts, -⟩ := C
  have ci : ∀ {x : Int32} {S : List Value}, VK h S → VK h (.int x :: S) := fun q => List.forall_mem_cons.mpr ⟨trivial, q⟩
  have cj : ∀ {x : Int64} {S : List Value}, VK h S → VK h (.long x :: S) := fun q => List.forall_mem_cons.mpr ⟨trivial, q⟩
  unfold actCn at ha
  split at ha
  · have hl := hl.resolve_left (Nat.succ_ne_zero _); subst hl; cases ha; exact ⟨rfl, rfl, ci hVS, fun k => lv_iconst hx hb hd rfl k⟩
  · have hl := hl.resolve_left (Nat.succ_ne_zero _); subst hl; cases ha; exact ⟨rfl, rfl, ci hVS, fun k => lv_bipush hx hb hd rfl k⟩
  · have hl := hl.resolve_left (Nat.succ_ne_zero _); subst hl; cases ha; exact ⟨rfl, rfl, ci hVS, fun k => lv_sipush hx hb hd rfl k⟩
  · have hl := hl.resolve_left (Nat.succ_ne_zero _); subst hl; cases ha; exact ⟨rfl, rfl, cj hVS, fun k => lv_lconst hx hb hd rfl k⟩
  · have hl := hl.resolve_left (Nat.succ_ne_zero _); subst hl; cases ha; exact ⟨rfl, rfl, List.forall_mem_cons.mpr ⟨trivial, hVS⟩, fun k => lv_null hx hb hd k⟩
  · have hl := hl.resolve_left (Nat.succ_ne_zero _); subst hl
    split at ha
    · rename_i v hv
      cases ha
      exact ⟨rfl, rfl, ci hVS, fun k => lv_ldc hx hb hown (hts _ (icW _ (lkp_mem hv))) hd k⟩
    · split at ha
      · rename_i v hv
        cases ha
        have hm := lkp_mem hv
        have h6 : v < 6 := (slW _ hm).1
        have hv6 : vok h (.ref (1000000 + v)) := Or.inr ⟨Nat.le_add_right _ _, Nat.add_lt_add_left h6 1000000⟩
        have hz := hT.2.2.2.1 _ hm
        dsimp only at hz
        refine ⟨rfl, rfl, List.forall_mem_cons.mpr ⟨hv6, hVS⟩, fun k => ?_⟩
        have k2 : W p l e R s m args below meth c H locs cells slots Q (F0 m (pc + 2) ls (Value.ref (adr (1000000 + v)) :: S.map (rv adr))) := k
        rw [hK v h6] at k2
        exact va_ldcS hx hb hown hz hd k2
      · cases ha
  · have hl := hl.resolve_left (Nat.succ_ne_zero _); subst hl
    split at ha
    · rename_i v hv
      cases ha
      exact ⟨rfl, rfl, ci hVS, fun k => lv_ldcw hx hb hown (hts _ (icW _ (lkp_mem hv))) hd k⟩
    · cases ha
  · have hl := hl.resolve_left (Nat.succ_ne_zero _); subst hl
    split at ha
    · rename_i v hv
      cases ha
      exact ⟨rfl, rfl, cj hVS, fun k => lv_ldc2 hx hb hown (hts _ (lcW _ (lkp_mem hv))) hd k⟩
    · cases ha
  · cases ha
theorem nt_icmp {cc : ByteArray} (hexec : p.tables.exec = Jvm.exec) (hb : c.code = cc) {x z : Int32} {c0 : ClassFile.Cond} {off : Int} {rest : List Value} (hdg : decode cc pc = .ok (.if_icmp c0 off, 3)) (hn : ¬ cmpB c0 x z = true) (k : W p l e R s m args below meth c H locs cells slots Q (F0 m (pc + 3) ls rest)) : W p l e R s m args below meth c H locs cells slots Q (F0 m pc ls (.int z :: .int x :: rest)) := by
  intro T hT X
  obtain ⟨t, a, b⟩ := k T hT X
  refine ⟨t, ?_, b⟩
  cases c0 <;> simp only [cmpB, decide_eq_true_eq, Classical.not_not] at hn
  all_goals jvm_step X.here [X.here.top, hexec, hb, hdg, Op.if_icmp.holds, hn]
  all_goals exact a
theorem nt_if {cc : ByteArray} (hexec : p.tables.exec = Jvm.exec) (hb : c.code = cc) {x : Int32} {c0 : ClassFile.Cond} {off : Int} {rest : List Value} (hdg : decode cc pc = .ok (.ifCond c0 off, 3)) (hn : ¬ cmpB c0 x 0 = true) (k : W p l e R s m args below meth c H locs cells slots Q (F0 m (pc + 3) ls rest)) : W p l e R s m args below meth c H locs cells slots Q (F0 m pc ls (.int x :: rest)) := by
  intro T hT X
  obtain ⟨t, a, b⟩ := k T hT X
  refine ⟨t, ?_, b⟩
  cases c0 <;> simp only [cmpB, decide_eq_true_eq, Classical.not_not] at hn
  all_goals jvm_step X.here [X.here.top, hexec, hb, hdg, Op.ifCond.holds, hn]
  all_goals exact a
theorem br_ft (C : Cx p s m args meth c y) (hd : decode y.2.2.2.1 pc = .ok (i, len)) (hl : ilen i = 0 ∨ len = ilen i) (ha : actBr i L S h = some (.inl (L', S', h1))) (hVS : VK h S) : h1 = h ∧ L' = L ∧ VK h S' ∧ (W p l e R s m args below meth c H locs cells slots Q (F0 m (pc + len) ls (S'.map (rv adr))) → W p l e R s m args below meth c H locs cells slots Q (F0 m pc ls (S.map (rv adr)))) := by
  obtain ⟨hx, hb, hml, hown, hts, -⟩ := C
  have c1 : ∀ {a : Value} {S : List Value}, VK h (a :: S) → VK h S := fun q => (List.forall_mem_cons.mp q).2
  unfold actBr at ha
  split at ha
  · cases ha
  · have hl := hl.resolve_left (Nat.succ_ne_zero _); subst hl
    split at ha
    · cases ha
    · rename_i hn
      cases ha
      exact ⟨rfl, rfl, c1 (c1 hVS), fun k => nt_icmp hx hb hd hn k⟩
  · have hl := hl.resolve_left (Nat.succ_ne_zero _); subst hl
    split at ha
    · cases ha
    · rename_i hn
      cases ha
      exact ⟨rfl, rfl, c1 hVS, fun k => nt_if hx hb hd hn k⟩
  · cases ha
  · have hl := hl.resolve_left (Nat.succ_ne_zero _); subst hl
    cases ha
    exact ⟨rfl, rfl, c1 hVS, fun k => lv_ifnonnullN hx hb hd k⟩
  · split at ha
    · cases ha
    · split at ha <;> cases ha
  · split at ha <;> cases ha
  · cases ha
theorem br_jp {o : Int} {tgt : Nat} (C : Cx p s m args meth c y) (hd : decode y.2.2.2.1 pc = .ok (i, len)) (hl : ilen i = 0 ∨ len = ilen i) (ha : actBr i L S h = some (.inr (.inl (o, S')))) (hVS : VK h S) (ht : (pc : Int) + o = (tgt : Int)) : VK h S' ∧ (W p l e R s m args below meth c H locs cells slots Q (F0 m tgt ls (S'.map (rv adr))) → W p l e R s m args below meth c H locs cells slots Q (F0 m pc ls (S.map (rv adr)))) := by
  obtain ⟨hx, hb, hml, hown, hts, -⟩ := C
  have c1 : ∀ {a : Value} {S : List Value}, VK h (a :: S) → VK h S := fun q => (List.forall_mem_cons.mp q).2
  unfold actBr at ha
  split at ha
  · have hl := hl.resolve_left (Nat.succ_ne_zero _); subst hl
    cases ha
    exact ⟨hVS, fun k => lv_goto hx hb hd ht k⟩
  · have hl := hl.resolve_left (Nat.succ_ne_zero _); subst hl
    split at ha
    · rename_i c0 o0 z x S0 hc
      cases ha
      refine ⟨c1 (c1 hVS), fun k => ?_⟩
      cases c0 <;> simp only [cmpB, decide_eq_true_eq] at hc
      · exact lv_icmp_eq hx hb hd ht (fun _ => k) (fun q => absurd hc q)
      · exact lv_icmp_ne hx hb hd ht (fun _ => k) (fun q => absurd q hc)
      · exact lv_icmp_lt hx hb hd ht (fun _ => k) (fun q => absurd hc q)
      · exact lv_icmp_ge hx hb hd ht (fun _ => k) (fun q => absurd hc q)
      · exact lv_icmp_gt hx hb hd ht (fun _ => k) (fun q => absurd hc q)
      · exact lv_icmp_le hx hb hd ht (fun _ => k) (fun q => absurd hc q)
    · cases ha
  · have hl := hl.resolve_left (Nat.succ_ne_zero _); subst hl
    split at ha
    · rename_i c0 o0 x S0 hc
      cases ha
      refine ⟨c1 hVS, fun k => ?_⟩
      cases c0 <;> simp only [cmpB, decide_eq_true_eq] at hc
      · exact lv_if_eq hx hb hd ht (fun _ => k) (fun q => absurd hc q)
      · exact lv_if_ne hx hb hd ht (fun _ => k) (fun q => absurd q hc)
      · exact lv_if_lt hx hb hd ht (fun _ => k) (fun q => absurd hc q)
      · exact lv_if_ge hx hb hd ht (fun _ => k) (fun q => absurd hc q)
      · exact lv_if_gt hx hb hd ht (fun _ => k) (fun q => absurd hc q)
      · exact lv_if_le hx hb hd ht (fun _ => k) (fun q => absurd hc q)
    · cases ha
  · have hl := hl.resolve_left (Nat.succ_ne_zero _); subst hl
    cases ha
    exact ⟨c1 hVS, fun k => lv_ifnonnull hx hb hd ht k⟩
  · cases ha
  · split at ha
    · rename_i hr
      cases ha
      exact ⟨c1 hVS, fun k => lv_tableOut hx hb hd hr ht k⟩
    · rename_i hr
      split at ha
      · rename_i o0 ho
        cases ha
        exact ⟨c1 hVS, fun k => lv_tableIn hx hb hd (fun q => hr (Or.inl q)) (fun q => hr (Or.inr q)) ho ht k⟩
      · cases ha
  · split at ha
    · rename_i hp
      cases ha
      exact ⟨c1 hVS, fun k => lv_lookup hx hb hd hp rfl ht k⟩
    · cases ha
  · cases ha
end SimBr
