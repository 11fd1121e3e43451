-- the heap: fields, arrays, what is new
theorem rv_vr (adr : Nat → Nat) (r : Option Nat) : rv adr (vr r) = va_rf (r.map adr) := by cases r <;> rfl
theorem vok_vr {h : Hp} (hR : HR h) (a k : Nat) : vok h (vr (gR h a k)) := by
  unfold vr gR
  cases hb : h.2.2.1 a k with
  | none => trivial
  | some b => exact Or.inl (hR.1 a k b hb)
theorem vok_fval {h : Hp} (hR : HR h) (a t k : Nat) : vok h (fval h a t k) := by
  unfold fval
  split
  · trivial
  · split
    · exact vok_vr hR a k
    · trivial
theorem vok_grow {h h1 : Hp} (hn : nxt h ≤ nxt h1) {v : Value} (hv : vok h v) : vok h1 v := by
  cases v with
  | ref a => exact hv.elim (fun q => Or.inl (Nat.lt_of_lt_of_le q hn)) Or.inr
  | _ => trivial
theorem fvals_len (adr : Nat → Nat) (h : Hp) (a c : Nat) : (fvals adr h a c).length = csize c := by simp [fvals]
theorem fvals_at {adr : Nat → Nat} {h : Hp} {a c f : Nat} (hf : f < csize c) : (fvals adr h a c)[f]? = some (rv adr (fval h a (fkind c f).1 f)) := by
  unfold fvals
  rw [List.getElem?_map, List.getElem?_range hf]
  rfl
theorem fvals_set {adr : Nat → Nat} {h h1 : Hp} {a c f : Nat} {v : Value} (hf : f < csize c) (hv : rv adr (fval h1 a (fkind c f).1 f) = v) (ho : ∀ k, k ≠ f → fval h1 a (fkind c k).1 k = fval h a (fkind c k).1 k) : (fvals adr h a c).set f v = fvals adr h1 a c := by
  apply List.ext_getElem?
  intro k
  rw [List.getElem?_set]
  by_cases hk : f = k
  · subst hk
    rw [if_pos rfl, if_pos (by rw [fvals_len]; exact hf), fvals_at hf, hv]
  · rw [if_neg hk]
    rcases Nat.lt_or_ge k (csize c) with q | q
    · rw [fvals_at q, fvals_at q, ho k (fun z => hk z.symm)]
    · rw [List.getElem?_eq_none (by rw [fvals_len]; omega), List.getElem?_eq_none (by rw [fvals_len]; omega)]
theorem Ecell_same {adr : Nat → Nat} {cA : Nat → ClassId} {h h1 : Hp} {x : Nat} (hs : shp h1 x = shp h x) (hi : h1.1 x = h.1 x) (hj : h1.2.1 x = h.2.1 x) (hr : h1.2.2.1 x = h.2.2.1 x) : Ecell adr cA h1 x = Ecell adr cA h x := by
  unfold Ecell
  rw [hs, hi, hr]
  have e3 : ∀ c, fvals adr h1 x c = fvals adr h x c := by
    intro c
    unfold fvals fval gI gJ gR
    rw [hi, hj, hr]
  rw [e3]
theorem sI_row {h : Hp} {a k x : Nat} {v : Int32} (hx : x ≠ a) : (sI h a k v).1 x = h.1 x := by funext j; simp [sI, hx]
theorem sI_row_at (h : Hp) (a k : Nat) (v : Int32) : (sI h a k v).1 a = upd (h.1 a) k v := by funext j; simp [sI, upd]
theorem sJ_row {h : Hp} {a k x : Nat} {v : Int64} (hx : x ≠ a) : (sJ h a k v).2.1 x = h.2.1 x := by funext j; simp [sJ, hx]
theorem sR_row {h : Hp} {a k x : Nat} {v : Option Nat} (hx : x ≠ a) : (sR h a k v).2.2.1 x = h.2.2.1 x := by funext j; simp [sR, hx]
theorem cpI_row {h : Hp} {a sp b dp n x : Nat} (hx : x ≠ b) : (cpI h a sp b dp n).1 x = h.1 x := by funext j; simp [cpI, hx]
theorem vw_lt {c : Nat} {q : vw_C} (h : vwCl[c]? = some q) : c < 10 := (List.getElem?_eq_some_iff.mp h).1
theorem LR_ext {adr adr1 : Nat → Nat} {L : List Value} {ls : Array Slot} {nL : Nat} {h : Hp} (hV : VK h L) (h1 : ∀ a, a < nxt h → adr1 a = adr a) (h2 : ∀ a, 1000000 ≤ a → adr1 a = adr a) (hL : LR adr L ls nL) : LR adr1 L ls nL := by
  refine ⟨hL.1, hL.2.1, hL.2.2.1, fun i v hi hv => ?_⟩
  rw [hL.2.2.2 i v hi hv]
  have hk := hV v (List.mem_of_getElem? hi)
  cases v with
  | ref a => exact hk.elim (fun q => by show some (Slot.val (Value.ref (adr a))) = some (Slot.val (Value.ref (adr1 a))); rw [h1 a q]) (fun q => by show some (Slot.val (Value.ref (adr a))) = some (Slot.val (Value.ref (adr1 a))); rw [h2 a q.1])
  | _ => rfl
theorem rvs_ext {adr adr1 : Nat → Nat} {L : List Value} {h : Hp} (hV : VK h L) (h1 : ∀ a, a < nxt h → adr1 a = adr a) (h2 : ∀ a, 1000000 ≤ a → adr1 a = adr a) : L.map (rv adr1) = L.map (rv adr) := by
  apply List.map_congr_left
  intro v hv
  have hk := hV v hv
  cases v with
  | ref a => exact hk.elim (fun q => by show Value.ref (adr1 a) = Value.ref (adr a); rw [h1 a q]) (fun q => by show Value.ref (adr1 a) = Value.ref (adr a); rw [h2 a q.1])
  | _ => rfl
section SimHp
variable {p : Program} {l : Launch} {e : Env} {R : Room} {s : State} {m : MethodId} {args : Array Value} {below : List Frame} {meth : Method} {c : Code} {Q : State → Prop} {D : va_G} {A : Nat → Prop} {b N0 : Nat} {xs : Nat → Int32} {aK aV : Nat → Nat} {y : Mth} {pc len : Nat} {i : Instr} {L S L' S' : List Value} {h h1 : Hp} {H : Heap} {locs : List Loc} {cells slots : Nat} {ls : Array Slot} {adr : Nat → Nat} {cA : Nat → ClassId}
/-- the relation behind a write to one row -/
theorem Rel.wr (hRel : Rel D A b N0 xs aK s adr cA H locs h) {a : Nat} {e : va_E} (ha0 : 0 < a) (ha : a < nxt h) (hshape : h1.2.2.2 = h.2.2.2) (hHR : ∀ x k z, h1.2.2.1 x k = some z → z < nxt h) (he : Ecell adr cA h1 a = e) (ho : ∀ x, x ≠ a → h1.1 x = h.1 x ∧ h1.2.1 x = h.2.1 x ∧ h1.2.2.1 x = h.2.2.1 x) {H1 : Heap} {locs1 : List Loc} (hP : va_P D vwCl ((wsO adr cA h).set (a - 1) (adr a, e)) H1) (hD : va_D A ((wsO adr cA h).set (a - 1) (adr a, e))) (hS : va_S A s.heap H1 locs1) : Rel D A b N0 xs aK s adr cA H1 locs1 h1 := by
  obtain ⟨r1, r2, r3, r4, r5, r6, r7, r8, r9⟩ := hRel
  have hn : nxt h1 = nxt h := by unfold nxt; rw [hshape]
  have hsh : ∀ x, shp h1 x = shp h x := fun x => by unfold shp; rw [hshape]
  have hw := wsO_set (adr := adr) (cA := cA) ha0 ha hn he (fun x hx => Ecell_same (hsh x) (ho x hx).1 (ho x hx).2.1 (ho x hx).2.2)
  rw [hw] at hP hD
  refine ⟨hP, hD, hS, fun x hx0 hx => ?_, r5, r6, by rw [hsh]; exact r7, fun j hj => ?_, ⟨fun x k z hz => by rw [hn]; exact hHR x k z hz, by rw [hn]; exact r9.2.1, by rw [hn]; exact r9.2.2.1, fun x hx0 hx => by rw [hsh]; exact r9.2.2.2 x hx0 (by rw [← hn]; exact hx)⟩⟩
  · rw [hsh]
    exact r4 x hx0 (by rw [← hn]; exact hx)
  · rw [(ho 0 (by omega)).1]
    exact r8 j hj
/-- the relation behind a new cell -/
theorem Rel.nw (hRel : Rel D A b N0 xs aK s adr cA H locs h) {kd n q : Nat} {cq : ClassId} {e : va_E} (hlt : nxt h < 900000) (hkd : kd ≠ 0) (hty : 1 ≤ kd → kd ≤ 4 → ArrOfT s cq (kty kd) ∧ va_RA s cq (kty kd)) (he : Ecell (va_up adr (nxt h) q) (va_up cA (nxt h) cq) (newO h kd n) (nxt h) = e) {H1 : Heap} {locs1 : List Loc} (hP : va_P D vwCl (wsO adr cA h ++ [(q, e)]) H1) (hD : va_D A (wsO adr cA h ++ [(q, e)])) (hS : va_S A s.heap H1 locs1) : Rel D A b N0 xs aK s (va_up adr (nxt h) q) (va_up cA (nxt h) cq) H1 locs1 (newO h kd n) := by
  obtain ⟨r1, r2, r3, r4, r5, r6, r7, r8, r9⟩ := hRel
  rw [wsO_new r9 kd n q cq e he] at hP hD
  have h0 : 0 < nxt h := r9.2.1
  refine ⟨hP, hD, hS, fun x hx0 hx => ?_, ?_, fun i hi => ?_, ?_, fun j hj => ?_, ⟨fun x k z hz => ?_, ?_, ?_, fun x hx0 hx => ?_⟩⟩
  · rw [nxt_new] at hx
    by_cases hxe : x = nxt h
    · subst hxe
      rw [shp_new]
      intro g1 g2
      rw [show va_up cA (nxt h) cq (nxt h) = cq by simp [va_up]]
      exact hty g1 g2
    · rw [shp_new_old (by omega), show va_up cA (nxt h) cq x = cA x by simp [va_up, hxe]]
      exact r4 x hx0 (by omega)
  · rw [show va_up adr (nxt h) q 0 = adr 0 by simp [va_up, show ¬ 0 = nxt h by omega]]
    exact r5
  · rw [show va_up adr (nxt h) q (1000000 + i) = adr (1000000 + i) by simp [va_up, show ¬ 1000000 + i = nxt h by omega]]
    exact r6 i hi
  · rw [shp_new_old h0]
    exact r7
  · rw [show (newO h kd n).1 0 j = h.1 0 j by simp [newO, show ¬ 0 = nxt h by omega]]
    exact r8 j hj
  · rw [nxt_new]
    have hz2 : (if x = nxt h then none else h.2.2.1 x k) = some z := hz
    split at hz2
    · cases hz2
    · exact Nat.lt_succ_of_lt (r9.1 x k z hz2)
  · rw [nxt_new]; omega
  · rw [nxt_new]; omega
  · rw [nxt_new] at hx
    by_cases hxe : x = nxt h
    · subst hxe
      rw [shp_new]
      exact hkd
    · rw [shp_new_old (by omega)]
      exact r9.2.2.2 x hx0 (by omega)
theorem Rel.kind0 (hRel : Rel D A b N0 xs aK s adr cA H locs h) {a : Nat} (hk : (shp h a).1 = 0) : a = 0 := by
  rcases Nat.eq_zero_or_pos a with q | q
  · exact q
  · exact absurd hk (hRel.2.2.2.2.2.2.2.2.2.2.2 a q (shp_lt (by omega)))
theorem Rel.pos (hRel : Rel D A b N0 xs aK s adr cA H locs h) {a : Nat} (hk : (shp h a).1 ≠ 0) : 0 < a := by
  rcases Nat.eq_zero_or_pos a with q | q
  · subst q
    rw [hRel.2.2.2.2.2.2.1] at hk
    exact absurd rfl hk
  · exact q
theorem va_Kt {ty : FieldType} {cq : ClassId} (hK : va_K D vwCl [] s) (h1 : ArrOfT s cq ty ∧ va_RA s cq ty) : va_K D vwCl [(cq, ty)] s := by
  refine ⟨hK.1, fun k q hq => ?_⟩
  have hz : k < 1 := (List.getElem?_eq_some_iff.mp hq).1
  rw [show k = 0 by omega] at hq
  cases hq
  exact h1
end SimHp
