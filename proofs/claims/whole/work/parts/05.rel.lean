-- THE SMALL MACHINE BESIDE THE REAL ONE: what corresponds to what
def rv (adr : Nat → Nat) (v : Value) : Value := match v with
  | .ref a => .ref (adr a)
  | v => v
theorem rv_cat (adr : Nat → Nat) (v : Value) : (rv adr v).category = v.category := by cases v <;> rfl
def vok (h : Hp) (v : Value) : Prop := match v with
  | .ref a => a < nxt h ∨ (1000000 ≤ a ∧ a < 1000006)
  | _ => True
def LR (adr : Nat → Nat) (L : List Value) (ls : Array Slot) (nL : Nat) : Prop := ls.size = nL ∧ L.length = nL ∧ lv_wf ls ∧ ∀ (i : Nat) (v : Value), L[i]? = some v → v ≠ un → ls[i]? = some (.val (rv adr v))
def fvals (adr : Nat → Nat) (h : Hp) (a c : Nat) : List Value := (List.range (csize c)).map (fun k => rv adr (fval h a (fkind c k).1 k))
def Ecell (adr : Nat → Nat) (cA : Nat → ClassId) (h : Hp) (a : Nat) : va_E :=
  if (shp h a).1 < 10 then .inl (cA a, (shp h a).2, if (shp h a).1 ≤ 2 then .inl (h.1 a) else .inr (.inr (.inr (.inr (fun j => (h.2.2.1 a j).map adr)))))
  else .inr ((shp h a).1 - 10, fvals adr h a ((shp h a).1 - 10))
def wsO (adr : Nat → Nat) (cA : Nat → ClassId) (h : Hp) : va_W := (List.range (nxt h - 1)).map (fun k => (adr (k + 1), Ecell adr cA h (k + 1)))
def kty (k : Nat) : FieldType := if k = 1 then .int else if k = 2 then .byte else .object (aoT k)
def tot (h : Hp) : Nat := (h.2.2.2.map fun q => q.2).sum
/-- what is so of the small heap by itself -/
def HR (h : Hp) : Prop := (∀ a k b, h.2.2.1 a k = some b → b < nxt h) ∧ 0 < nxt h ∧ nxt h ≤ 900000 ∧ ∀ a, 0 < a → a < nxt h → (shp h a).1 ≠ 0
def sLen (i : Nat) : Nat := (strT.getD i []).length
/-- what the tables say, and what lies there from the start -/
def Tb (D : va_G) (A : Nat → Prop) (b N0 : Nat) (xs : Nat → Int32) (aK aV : Nat → Nat) (U : State) : Prop :=
  va_K D vwCl [] U ∧ (∀ e ∈ mlT, e.2.1 = 3 → va_Nw (.methodLinkNest (clsN e.1.1) e.1.2 e.2.2.2.2.2.2.1 "RoundStool") U) ∧ (∀ kd, kd = 3 ∨ kd = 4 → va_AO (aoT kd) U) ∧ (∀ e ∈ slT, vk_R (clsN e.1.1) e.1.2 (sTx e.2) (aK e.2) U) ∧ va_X b N0 xs U U.heap ∧ b < U.heap.size ∧ ¬ A b ∧ (∀ q, U.heap.size ≤ q → A q) ∧ vk_S 6 (strT.map List.length) strT aK aV A U U.heap ∧ va_Z "java/lang/String" "COMPACT_STRINGS" "Z" (.int 1) A U U.heap ∧ va_Zq "jdk/internal/util/Preconditions" "SIOOBE_FORMATTER" "Ljava/util/function/BiFunction;" A U U.heap
def Cx (p : Program) (s : State) (m : MethodId) (args : Array Value) (meth : Method) (c : Code) (y : Mth) : Prop :=
  p.tables.exec = Jvm.exec ∧ c.code = y.2.2.2.1 ∧ c.maxLocals = y.2.2.2.2.1 ∧ s.vm.findClass (clsN y.1) = some m.cls ∧ (∀ w ∈ gt, w.before args s = true) ∧ meth.sig.returnType = y.2.2.2.2.2 ∧ (y.2.1 = true → meth.name = "<init>") ∧ meth.locks = false
def Rel (D : va_G) (A : Nat → Prop) (b N0 : Nat) (xs : Nat → Int32) (aK : Nat → Nat) (s : State) (adr : Nat → Nat) (cA : Nat → ClassId) (H : Heap) (locs : List Loc) (h : Hp) : Prop :=
  va_P D vwCl (wsO adr cA h) H ∧ va_D A (wsO adr cA h) ∧ va_S A s.heap H locs ∧ (∀ a, 0 < a → a < nxt h → 1 ≤ (shp h a).1 → (shp h a).1 ≤ 4 → ArrOfT s (cA a) (kty (shp h a).1) ∧ va_RA s (cA a) (kty (shp h a).1)) ∧ adr 0 = b ∧ (∀ i, i < 6 → adr (1000000 + i) = aK i) ∧ shp h 0 = (0, N0) ∧ (∀ j, j < N0 → h.1 0 j = xs j) ∧ HR h
theorem wsO_len (adr : Nat → Nat) (cA : Nat → ClassId) (h : Hp) : (wsO adr cA h).length = nxt h - 1 := by simp [wsO]
theorem wsO_at {adr : Nat → Nat} {cA : Nat → ClassId} {h : Hp} {a : Nat} (h0 : 0 < a) (h1 : a < nxt h) : (wsO adr cA h)[a - 1]? = some (adr a, Ecell adr cA h a) := by
  unfold wsO
  rw [List.getElem?_map, List.getElem?_range (by omega)]
  simp only [Option.map_some]
  rw [show a - 1 + 1 = a by omega]
theorem shp_out {h : Hp} {a : Nat} (h1 : nxt h ≤ a) : shp h a = (99, 0) := by
  unfold shp nxt at *
  rw [List.getD_eq_getElem?_getD, List.getElem?_eq_none h1]
  rfl
theorem shp_lt {h : Hp} {a : Nat} (h1 : (shp h a).1 < 99) : a < nxt h := by
  rcases Nat.lt_or_ge a (nxt h) with q | q
  · exact q
  · rw [shp_out q] at h1
    exact absurd h1 (by decide)
theorem Ecell_arr {adr : Nat → Nat} {cA : Nat → ClassId} {h : Hp} {a : Nat} (hk : (shp h a).1 ≤ 2) : Ecell adr cA h a = .inl (cA a, (shp h a).2, .inl (h.1 a)) := by
  unfold Ecell
  rw [if_pos (by omega), if_pos hk]
theorem Ecell_ref {adr : Nat → Nat} {cA : Nat → ClassId} {h : Hp} {a : Nat} (hk : (shp h a).1 = 3 ∨ (shp h a).1 = 4) : Ecell adr cA h a = .inl (cA a, (shp h a).2, .inr (.inr (.inr (.inr (fun j => (h.2.2.1 a j).map adr))))) := by
  unfold Ecell
  rw [if_pos (by omega), if_neg (by omega)]
theorem Ecell_obj {adr : Nat → Nat} {cA : Nat → ClassId} {h : Hp} {a c : Nat} (hk : (shp h a).1 = 10 + c) : Ecell adr cA h a = .inr (c, fvals adr h a c) := by
  unfold Ecell
  rw [if_neg (by omega), hk, show 10 + c - 10 = c by omega]
/-- two heaps of one shape that differ at one place alone -/
theorem wsO_set {adr : Nat → Nat} {cA : Nat → ClassId} {h h1 : Hp} {a : Nat} {e : va_E} (h0 : 0 < a) (ha : a < nxt h) (hn : nxt h1 = nxt h) (he : Ecell adr cA h1 a = e) (ho : ∀ x, x ≠ a → Ecell adr cA h1 x = Ecell adr cA h x) : (wsO adr cA h).set (a - 1) (adr a, e) = wsO adr cA h1 := by
  apply List.ext_getElem?
  intro k
  rw [List.getElem?_set]
  by_cases hk : a - 1 = k
  · subst hk
    rw [if_pos rfl, if_pos (by rw [wsO_len]; omega), wsO_at h0 (by omega), he]
  · rw [if_neg hk]
    rcases Nat.lt_or_ge k (nxt h - 1) with q | q
    · have e1 := wsO_at (adr := adr) (cA := cA) (h := h) (a := k + 1) (by omega) (by omega)
      have e2 := wsO_at (adr := adr) (cA := cA) (h := h1) (a := k + 1) (by omega) (by omega)
      rw [show k + 1 - 1 = k by omega] at e1 e2
      rw [e1, e2, ho (k + 1) (by omega)]
    · rw [List.getElem?_eq_none (by rw [wsO_len]; omega), List.getElem?_eq_none (by rw [wsO_len]; omega)]
theorem fval_ext {adr adr' : Nat → Nat} {h : Hp} (hR : HR h) (ha : ∀ a, a < nxt h → adr' a = adr a) (a t k : Nat) : rv adr' (fval h a t k) = rv adr (fval h a t k) := by
  unfold fval
  split
  · rfl
  · split
    · unfold vr gR
      cases hb : h.2.2.1 a k with
      | none => rfl
      | some b => show Value.ref (adr' b) = Value.ref (adr b); rw [ha b (hR.1 a k b hb)]
    · rfl
theorem Ecell_ext {adr adr' : Nat → Nat} {cA cA' : Nat → ClassId} {h : Hp} (hR : HR h) (ha : ∀ a, a < nxt h → adr' a = adr a) {a : Nat} (hc : cA' a = cA a) : Ecell adr' cA' h a = Ecell adr cA h a := by
  unfold Ecell
  rw [hc]
  have e1 : (fun j => (h.2.2.1 a j).map adr') = (fun j => (h.2.2.1 a j).map adr) := by
    funext j
    cases hb : h.2.2.1 a j with
    | none => rfl
    | some b => show some (adr' b) = some (adr b); rw [ha b (hR.1 a j b hb)]
  rw [e1]
  have e2 : ∀ c, fvals adr' h a c = fvals adr h a c := by
    intro c
    unfold fvals
    apply List.map_congr_left
    intro k _
    exact fval_ext hR ha a _ k
  rw [e2]
theorem wsO_ext {adr adr' : Nat → Nat} {cA cA' : Nat → ClassId} {h : Hp} (hR : HR h) (ha : ∀ a, a < nxt h → adr' a = adr a) (hc : ∀ a, a < nxt h → cA' a = cA a) : wsO adr' cA' h = wsO adr cA h := by
  unfold wsO
  apply List.map_congr_left
  intro k hk
  have hk := List.mem_range.mp hk
  rw [ha (k + 1) (by omega), Ecell_ext hR ha (hc (k + 1) (by omega))]
theorem nxt_new (h : Hp) (kd n : Nat) : nxt (newO h kd n) = nxt h + 1 := by simp [nxt, newO]
theorem shp_new_old {h : Hp} {kd n a : Nat} (ha : a < nxt h) : shp (newO h kd n) a = shp h a := by
  unfold shp newO
  simp only []
  rw [List.getD_eq_getElem?_getD, List.getD_eq_getElem?_getD, List.getElem?_append_left ha]
theorem shp_new (h : Hp) (kd n : Nat) : shp (newO h kd n) (nxt h) = (kd, n) := by
  unfold shp newO nxt
  simp
theorem tot_new (h : Hp) (kd n : Nat) : tot (newO h kd n) = tot h + n := by simp [tot, newO]
theorem fval_new_old {h : Hp} {kd n a : Nat} (ha : a < nxt h) (t k : Nat) : fval (newO h kd n) a t k = fval h a t k := by
  unfold fval gI gJ gR newO
  simp only [if_neg (Nat.ne_of_lt ha)]
theorem Ecell_new_old {adr : Nat → Nat} {cA : Nat → ClassId} {h : Hp} {kd n a : Nat} (ha : a < nxt h) : Ecell adr cA (newO h kd n) a = Ecell adr cA h a := by
  unfold Ecell
  rw [shp_new_old ha]
  have e1 : (newO h kd n).1 a = h.1 a := by funext j; simp [newO, Nat.ne_of_lt ha]
  have e2 : (newO h kd n).2.2.1 a = h.2.2.1 a := by funext j; simp [newO, Nat.ne_of_lt ha]
  have e3 : ∀ c, fvals adr (newO h kd n) a c = fvals adr h a c := by
    intro c
    unfold fvals
    apply List.map_congr_left
    intro k _
    rw [fval_new_old ha]
  rw [e1, e2, e3]
/-- a new cell at the end -/
theorem wsO_new {adr : Nat → Nat} {cA : Nat → ClassId} {h : Hp} (hR : HR h) (kd n q : Nat) (cq : ClassId) (e : va_E) (he : Ecell (va_up adr (nxt h) q) (va_up cA (nxt h) cq) (newO h kd n) (nxt h) = e) : wsO adr cA h ++ [(q, e)] = wsO (va_up adr (nxt h) q) (va_up cA (nxt h) cq) (newO h kd n) := by
  have h0 : 0 < nxt h := hR.2.1
  have ad : ∀ a, a < nxt h → va_up adr (nxt h) q a = adr a := fun a ha => by simp [va_up, Nat.ne_of_lt ha]
  have ac : ∀ a, a < nxt h → va_up cA (nxt h) cq a = cA a := fun a ha => by simp [va_up, Nat.ne_of_lt ha]
  rw [← wsO_ext hR ad ac]
  unfold wsO
  rw [nxt_new, show nxt h + 1 - 1 = nxt h - 1 + 1 by omega, List.range_succ, List.map_append]
  congr 1
  · apply List.map_congr_left
    intro k hk
    have hk := List.mem_range.mp hk
    rw [Ecell_new_old (by omega)]
  · simp only [List.map_cons, List.map_nil]
    rw [show nxt h - 1 + 1 = nxt h by omega, he]
    simp [va_up]
