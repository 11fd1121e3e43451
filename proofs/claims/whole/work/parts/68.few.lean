-- few lifts: what two rows have in common
def IsL (l t : List Nat) (c : Nat) : Prop := (∃ s : List Nat, s.Sublist l ∧ s.Sublist t ∧ s.length = c) ∧ ∀ s : List Nat, s.Sublist l → s.Sublist t → s.length ≤ c
theorem sub_snoc {s l : List Nat} {x : Nat} (k : s.Sublist (l ++ [x])) : s.Sublist l ∨ ∃ s', s = s' ++ [x] ∧ s'.Sublist l := by
  have k' : s.reverse.Sublist (x :: l.reverse) := by
    have := List.reverse_sublist.mpr k
    rw [List.reverse_append] at this
    exact this
  generalize e : s.reverse = r at k'
  have es : s = r.reverse := by rw [← e, List.reverse_reverse]
  cases k' with
  | cons _ q =>
    left
    rw [es]
    have := List.reverse_sublist.mpr q
    rw [List.reverse_reverse] at this
    exact this
  | cons_cons _ q =>
    rename_i r'
    right
    refine ⟨r'.reverse, by rw [es, List.reverse_cons], ?_⟩
    have := List.reverse_sublist.mpr q
    rw [List.reverse_reverse] at this
    exact this
theorem snoc_inj {a b : List Nat} {x : Nat} (e : a ++ [x] = b ++ [x]) : a = b := List.append_cancel_right e
theorem IsL.eq {l t : List Nat} {c x : Nat} (k : IsL l t c) : IsL (l ++ [x]) (t ++ [x]) (c + 1) := by
  obtain ⟨⟨s, a, b, e⟩, u⟩ := k
  refine ⟨⟨s ++ [x], a.append (List.Sublist.refl _), b.append (List.Sublist.refl _), by rw [List.length_append, e]; rfl⟩, fun s a b => ?_⟩
  rcases sub_snoc a with a | ⟨s', e1, a⟩
  · rcases sub_snoc b with b | ⟨s2, e2, b⟩
    · have := u s a b; omega
    · have w := u s2 ((show s2.Sublist s by rw [e2]; exact List.sublist_append_left _ _).trans a) b
      rw [e2, List.length_append]; exact Nat.succ_le_succ w
  · rcases sub_snoc b with b | ⟨s2, e2, b⟩
    · have w := u s' a ((show s'.Sublist s by rw [e1]; exact List.sublist_append_left _ _).trans b)
      rw [e1, List.length_append]; exact Nat.succ_le_succ w
    · have : s' = s2 := snoc_inj (e1.symm.trans e2)
      have w := u s' a (this ▸ b)
      rw [e1, List.length_append]; exact Nat.succ_le_succ w
theorem IsL.ne {l t : List Nat} {c1 c2 c x y : Nat} (k1 : IsL l (t ++ [y]) c1) (k2 : IsL (l ++ [x]) t c2) (hne : x ≠ y) (h1 : c1 ≤ c) (h2 : c2 ≤ c) (hc : c = c1 ∨ c = c2) : IsL (l ++ [x]) (t ++ [y]) c := by
  obtain ⟨⟨s1, a1, b1, e1⟩, u1⟩ := k1
  obtain ⟨⟨s2, a2, b2, e2⟩, u2⟩ := k2
  refine ⟨?_, fun s a b => ?_⟩
  · rcases hc with q | q
    · exact ⟨s1, a1.trans (List.sublist_append_left _ _), b1, e1.trans q.symm⟩
    · exact ⟨s2, a2, b2.trans (List.sublist_append_left _ _), e2.trans q.symm⟩
  · rcases sub_snoc a with a' | ⟨s', f1, a'⟩
    · exact Nat.le_trans (u1 s a' b) h1
    · rcases sub_snoc b with b' | ⟨s3, f2, b'⟩
      · exact Nat.le_trans (u2 s a b') h2
      · have e := f1.symm.trans f2
        have := congrArg List.getLast? e
        rw [List.getLast?_append, List.getLast?_append] at this
        exact absurd (by simpa using this) hne
theorem IsL.nil (t : List Nat) : IsL [] t 0 := ⟨⟨[], List.Sublist.refl _, List.nil_sublist _, rfl⟩, fun s a _ => by rw [List.sublist_nil.mp a]; exact Nat.le_refl _⟩
theorem IsL.nil' (l : List Nat) : IsL l [] 0 := ⟨⟨[], List.nil_sublist _, List.Sublist.refl _, rfl⟩, fun s _ a => by rw [List.sublist_nil.mp a]; exact Nat.le_refl _⟩
theorem IsL.uniq {l t : List Nat} {c c' : Nat} (k : IsL l t c) (k' : IsL l t c') : c = c' := by
  obtain ⟨⟨s, a, b, e⟩, u⟩ := k
  obtain ⟨⟨s', a', b', e'⟩, u'⟩ := k'
  have := u _ a' b'
  have := u' _ a b
  omega
theorem IsL.ex (l t : List Nat) : ∃ c, IsL l t c := by
  have key : ∀ m, (∀ s : List Nat, s.Sublist l → s.Sublist t → s.length ≤ m) → ∃ c, IsL l t c := by
    intro m
    induction m with
    | zero => exact fun u => ⟨0, ⟨[], List.nil_sublist _, List.nil_sublist _, rfl⟩, u⟩
    | succ m ih =>
      intro u
      by_cases z : ∃ s : List Nat, s.Sublist l ∧ s.Sublist t ∧ s.length = m + 1
      · exact ⟨m + 1, z, u⟩
      · refine ih (fun s a b => ?_)
        have := u s a b
        have : s.length ≠ m + 1 := fun q => z ⟨s, a, b, q⟩
        omega
  exact key l.length (fun s a _ => a.length_le)
theorem IsL.le {l t : List Nat} {c : Nat} (k : IsL l t c) : c ≤ t.length := by
  obtain ⟨⟨s, a, b, e⟩, u⟩ := k
  rw [← e]; exact b.length_le
theorem IsL.refl (t : List Nat) : IsL t t t.length := ⟨⟨t, List.Sublist.refl _, List.Sublist.refl _, rfl⟩, fun _ a _ => a.length_le⟩
theorem IsL.full {l t : List Nat} (k : IsL l t t.length) (e : l.length = t.length) : l = t := by
  obtain ⟨⟨s, a, b, es⟩, u⟩ := k
  rw [← b.eq_of_length es, a.eq_of_length (es.trans e.symm)]
-- lifting
theorem lift_mid {l1 l2 m1 m2 : List Nat} {x : Nat} (e : l1 ++ l2 = m1 ++ m2) : liftL (l1 ++ x :: l2) l1.length m1.length = m1 ++ x :: m2 := by
  unfold liftL ins1 del1
  have e1 : (l1 ++ x :: l2).take l1.length = l1 := List.take_left
  have e2 : (l1 ++ x :: l2).drop (l1.length + 1) = l2 := by
    rw [← List.drop_drop, List.drop_left]; rfl
  have e3 : (l1 ++ x :: l2).getD l1.length 0 = x := by
    rw [getD_app, if_neg (by omega), Nat.sub_self]; rfl
  rw [e1, e2, e3, e, List.take_left, List.drop_left]
theorem lift_dec {l : List Nat} {a b : Nat} (ha : a < l.length) (hb : b < l.length) : ∃ l1 x l2 m1 m2, l = l1 ++ x :: l2 ∧ l1.length = a ∧ m1.length = b ∧ l1 ++ l2 = m1 ++ m2 := by
  have hd : (l.take a ++ l.drop (a + 1)).length = l.length - 1 := len_del ha
  refine ⟨l.take a, l[a], l.drop (a + 1), (l.take a ++ l.drop (a + 1)).take b, (l.take a ++ l.drop (a + 1)).drop b, ?_, ?_, ?_, (List.take_append_drop _ _).symm⟩
  · rw [← List.drop_eq_getElem_cons ha, List.take_append_drop]
  · rw [List.length_take]; omega
  · rw [List.length_take, hd]; omega
theorem lift_inv {l : List Nat} {a b : Nat} (ha : a < l.length) (hb : b < l.length) : liftL (liftL l a b) b a = l := by
  obtain ⟨l1, x, l2, m1, m2, e, e1, e2, e3⟩ := lift_dec ha hb
  subst e; subst e1; subst e2
  rw [lift_mid e3, lift_mid e3.symm]
theorem lift_self {l : List Nat} {a : Nat} (ha : a < l.length) : liftL l a a = l := by
  obtain ⟨l1, x, l2, m1, m2, e, e1, e2, e3⟩ := lift_dec ha ha
  subst e; subst e1
  rw [lift_mid (m1 := l1) (m2 := l2) rfl]
theorem lift_perm {l : List Nat} {a b : Nat} (ha : a < l.length) (hb : b < l.length) : (liftL l a b).Perm l := by
  obtain ⟨l1, x, l2, m1, m2, e, e1, e2, e3⟩ := lift_dec ha hb
  subst e; subst e1; subst e2
  rw [lift_mid e3]
  refine List.perm_middle.trans ?_
  rw [← e3]
  exact List.perm_middle.symm
theorem sub_mid {s m1 m2 : List Nat} {x : Nat} (k : s.Sublist (m1 ++ x :: m2)) : ∃ s' : List Nat, s'.Sublist (m1 ++ m2) ∧ s'.Sublist s ∧ s.length ≤ s'.length + 1 := by
  obtain ⟨r1, r2, e, k1, k2⟩ := List.sublist_append_iff.mp k
  subst e
  cases k2 with
  | cons _ q => exact ⟨r1 ++ r2, k1.append q, List.Sublist.refl _, by omega⟩
  | cons_cons _ q =>
    rename_i r
    exact ⟨r1 ++ r, k1.append q, (List.Sublist.refl _).append (List.sublist_cons_self _ _), by rw [List.length_append, List.length_append, List.length_cons]; omega⟩
theorem mid_sub (m1 m2 : List Nat) (x : Nat) : (m1 ++ m2).Sublist (m1 ++ x :: m2) := (List.Sublist.refl _).append (List.sublist_cons_self _ _)
theorem lift_lc {l t : List Nat} {a b c c' : Nat} (ha : a < l.length) (hb : b < l.length) (k : IsL l t c) (k' : IsL (liftL l a b) t c') : c' ≤ c + 1 := by
  obtain ⟨l1, x, l2, m1, m2, e, e1, e2, e3⟩ := lift_dec ha hb
  subst e; subst e1; subst e2
  rw [lift_mid e3] at k'
  obtain ⟨⟨s, p, q, e⟩, _⟩ := k'
  obtain ⟨s', p1, p2, p3⟩ := sub_mid p
  rw [← e3] at p1
  have := k.2 s' (p1.trans (mid_sub _ _ _)) (p2.trans q)
  omega
theorem lift_lc2 {l t : List Nat} {a b c c' : Nat} (ha : a < l.length) (hb : b < l.length) (k : IsL l t c) (k' : IsL (liftL l a b) t c') : c ≤ c' + 1 := by
  have hl := len_lift ha hb
  refine lift_lc (l := liftL l a b) (a := b) (b := a) (by omega) (by omega) k' ?_
  rw [lift_inv ha hb]; exact k
theorem sub_more : ∀ {s t : List Nat}, s.Sublist t → s.length < t.length → ∃ x s1 s2, s = s1 ++ s2 ∧ (s1 ++ x :: s2).Sublist t := by
  intro s t k
  induction k with
  | slnil => intro h; exact absurd h (Nat.lt_irrefl _)
  | cons a k ih => intro _; exact ⟨a, [], _, rfl, List.Sublist.cons_cons a k⟩
  | cons_cons a k ih =>
    intro h
    obtain ⟨x, s1, s2, e, q⟩ := ih (by simpa using h)
    exact ⟨x, a :: s1, s2, by rw [e]; rfl, List.Sublist.cons_cons a q⟩
theorem sub_spare {x : Nat} : ∀ {s l : List Nat}, s.Sublist l → s.count x < l.count x → ∃ l1 l2, l = l1 ++ x :: l2 ∧ s.Sublist (l1 ++ l2) := by
  intro s l k
  induction k with
  | slnil => intro h; exact absurd h (Nat.lt_irrefl _)
  | cons a k ih =>
    rename_i s l
    intro h
    by_cases z : a = x
    · subst z; exact ⟨[], l, rfl, k⟩
    · rw [List.count_cons_of_ne z] at h
      obtain ⟨l1, l2, e, q⟩ := ih h
      exact ⟨a :: l1, l2, by rw [e]; rfl, List.Sublist.cons a q⟩
  | cons_cons a k ih =>
    intro h
    rw [List.count_cons, List.count_cons] at h
    obtain ⟨l1, l2, e, q⟩ := ih (by omega)
    exact ⟨a :: l1, l2, by rw [e]; rfl, List.Sublist.cons_cons a q⟩
theorem lift_up {l t : List Nat} {c : Nat} (hp : l.Perm t) (k : IsL l t c) (hc : c < t.length) : ∃ a b, a < l.length ∧ b < l.length ∧ a ≠ b ∧ IsL (liftL l a b) t (c + 1) := by
  obtain ⟨⟨s, p, q, e⟩, u⟩ := id k
  obtain ⟨x, s1, s2, es, q2⟩ := sub_more q (by omega)
  have c1 : s.count x < l.count x := by
    rw [hp.count_eq]
    have := q2.count_le x
    rw [List.count_append, List.count_cons_self] at this
    rw [es, List.count_append]
    omega
  obtain ⟨l1, l2, el, p2⟩ := sub_spare p c1
  rw [es] at p2
  obtain ⟨m1, m2, em, p3, p4⟩ := List.append_sublist_iff.mp p2
  have hl : l.length = (l1 ++ l2).length + 1 := by rw [el, List.length_append, List.length_append, List.length_cons]; omega
  have ha : l1.length < l.length := by rw [hl, List.length_append]; omega
  have hb : m1.length < l.length := by rw [hl, em, List.length_append]; omega
  have lm : liftL l l1.length m1.length = m1 ++ x :: m2 := by rw [el]; exact lift_mid em
  obtain ⟨c', k'⟩ := IsL.ex (liftL l l1.length m1.length) t
  have g1 := lift_lc ha hb k k'
  have g2 : c + 1 ≤ c' := by
    have := k'.2 (s1 ++ x :: s2) (by rw [lm]; exact p3.append (List.Sublist.cons_cons x p4)) q2
    rw [List.length_append, List.length_cons] at this
    rw [es, List.length_append] at e
    omega
  have g3 : c' = c + 1 := by omega
  subst g3
  refine ⟨_, _, ha, hb, fun z => ?_, k'⟩
  rw [z, lift_self hb] at k'
  have := k.uniq k'
  omega
-- how many rows there are
def perms : List Nat → List (List Nat)
  | [] => [[]]
  | x :: t => (perms t).flatMap (fun l => (List.range (t.length + 1)).map (fun i => l.take i ++ x :: l.drop i))
theorem len_fm {α β : Type} (f : α → List β) (c : Nat) (hf : ∀ a, (f a).length = c) : ∀ l : List α, (l.flatMap f).length = l.length * c
  | [] => by simp
  | a :: l => by rw [List.flatMap_cons, List.length_append, hf, len_fm f c hf l, List.length_cons, Nat.succ_mul]; omega
def fct : Nat → Nat
  | 0 => 1
  | n + 1 => fct n * (n + 1)
theorem perms_len : ∀ t : List Nat, (perms t).length = fct t.length
  | [] => rfl
  | x :: t => by
    unfold perms
    rw [len_fm _ (t.length + 1) (fun a => by rw [List.length_map, List.length_range]), perms_len t]
    rfl
theorem perms_mem : ∀ (t l : List Nat), l.Perm t → l ∈ perms t
  | [], l, h => by rw [h.eq_nil]; exact List.mem_singleton.mpr rfl
  | x :: t, l, h => by
    have hx : x ∈ l := h.mem_iff.mpr List.mem_cons_self
    obtain ⟨l1, l2, e⟩ := List.append_of_mem hx
    subst e
    have h2 : (l1 ++ l2).Perm t := (List.perm_middle.symm.trans h).cons_inv
    unfold perms
    refine List.mem_flatMap.mpr ⟨l1 ++ l2, perms_mem t _ h2, List.mem_map.mpr ⟨l1.length, List.mem_range.mpr ?_, ?_⟩⟩
    · have := h2.length_eq
      rw [List.length_append] at this
      omega
    · rw [List.take_left, List.drop_left]
theorem nodup_le {α : Type} [BEq α] [LawfulBEq α] : ∀ {q p : List α}, q.Nodup → (∀ x ∈ q, x ∈ p) → q.length ≤ p.length
  | [], p, _, _ => Nat.zero_le _
  | a :: q, p, hn, hs => by
    have h1 := List.nodup_cons.mp hn
    have ha := hs a List.mem_cons_self
    have := nodup_le (q := q) (p := p.erase a) h1.2 (fun x hx => (List.mem_erase_of_ne (show x ≠ a from fun z => h1.1 (z ▸ hx))).mpr (hs x (List.mem_cons_of_mem _ hx)))
    rw [List.length_erase_of_mem ha] at this
    have : 0 < p.length := List.length_pos_of_mem ha
    rw [List.length_cons]; omega
theorem fct_le {n : Nat} (h : n ≤ 7) : fct n ≤ 5040 := by
  have : ∀ n, n < 8 → fct n ≤ 5040 := by decide
  exact this n (by omega)
theorem few_rows {t : List Nat} (ht : t.length ≤ 7) {q : List (List Nat)} (hn : q.Nodup) (hp : ∀ l ∈ q, l.Perm t) : q.length ≤ 5040 := by
  have := nodup_le hn (fun l hl => perms_mem t l (hp l hl))
  rw [perms_len] at this
  exact Nat.le_trans this (fct_le ht)
-- rows as numbers
def pc (g : Nat → Nat) : Nat → Nat
  | 0 => 0
  | i + 1 => 10 * pc g i + g i
theorem pc_lt {g : Nat → Nat} (hg : ∀ i, g i < 10) : ∀ n, pc g n < 10 ^ n
  | 0 => Nat.zero_lt_one
  | n + 1 => by
    have := pc_lt hg n
    have := hg n
    unfold pc
    rw [Nat.pow_succ]
    omega
theorem pc_inj {g f : Nat → Nat} (hg : ∀ i, g i < 10) (hf : ∀ i, f i < 10) : ∀ n, pc g n = pc f n → ∀ i, i < n → g i = f i
  | 0, _, i, hi => by omega
  | n + 1, e, i, hi => by
    unfold pc at e
    have := hg n
    have := hf n
    have e1 : pc g n = pc f n := by omega
    by_cases z : i = n
    · subst z; omega
    · exact pc_inj hg hf n e1 i (by omega)
def cd (l : List Nat) : Nat := pc (fun i => l.getD i 0) l.length
def dg (l : List Nat) : Prop := ∀ x ∈ l, x < 10
theorem dg_get {l : List Nat} (h : dg l) (i : Nat) : l.getD i 0 < 10 := by
  rw [List.getD_eq_getElem?_getD]
  cases hx : l[i]? with
  | none => decide
  | some x => exact h x (List.mem_of_getElem? hx)
theorem cd_inj {l m : List Nat} (hl : dg l) (hm : dg m) (e : l.length = m.length) (ec : cd l = cd m) : l = m := by
  unfold cd at ec
  rw [← e] at ec
  have k := pc_inj (dg_get hl) (dg_get hm) _ ec
  refine List.ext_getElem e (fun i h1 h2 => ?_)
  have := k i h1
  rw [List.getD_eq_getElem?_getD, List.getD_eq_getElem?_getD, List.getElem?_eq_getElem h1, List.getElem?_eq_getElem h2] at this
  exact this
theorem cd_lt {l : List Nat} (hl : dg l) (h7 : l.length ≤ 7) : cd l < 10000000 := by
  have := pc_lt (dg_get hl) l.length
  have : 10 ^ l.length ≤ 10 ^ 7 := Nat.pow_le_pow_right (by decide) h7
  unfold cd
  omega
theorem dg_perm {l m : List Nat} (hm : dg m) (h : l.Perm m) : dg l := fun x hx => hm x (h.mem_iff.mp hx)
