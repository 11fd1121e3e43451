-- the search of the model
def WT (h : Hp) (t : List Nat) (E : List (List Nat × Nat × Nat)) : Prop := gI h 59 23 = nI E.length ∧ (∀ i e, E[i]? = some e → gI h 69 i = nI (cd e.1)) ∧ (∀ e ∈ E, e.1.Perm t ∧ e.2.2 < 16384 ∧ gI h 67 e.2.2 = nI (cd e.1) ∧ gI h 68 e.2.2 = nI e.2.1 ∧ St h (cd e.1) e.2.2 ∧ ∃ c, IsL e.1 t c ∧ e.2.1 + c = t.length) ∧ (∀ p, p < 16384 → gI h 67 p ≠ -1 → ∃ e ∈ E, e.2.2 = p) ∧ (E.map (fun e => e.1)).Nodup
section Wt
variable {d : Nat} {T : HT} {h : Hp} {Q : Option Value → Hp → Prop} {t l : List Nat} {E : List (List Nat × Nat × Nat)}
theorem WT.few (w : WT h t E) (h7 : t.length ≤ 7) : E.length ≤ 5040 := by
  have := few_rows h7 w.2.2.2.2 (fun l hl => by
    obtain ⟨e, he, q⟩ := List.mem_map.mp hl
    rw [← q]; exact (w.2.2.1 e he).1)
  rwa [List.length_map] at this
theorem WT.free (w : WT h t E) (h7 : t.length ≤ 7) : ∃ e, e < 16384 ∧ gI h 67 e = -1 := by
  by_cases z : ∃ e, e < 16384 ∧ gI h 67 e = -1
  · exact z
  · have := w.few h7
    have k := nodup_le (q := List.range 16384) (p := E.map (fun e => e.2.2)) List.nodup_range (fun x hx => by
      obtain ⟨e, he, q⟩ := w.2.2.2.1 x (List.mem_range.mp hx) (fun q => z ⟨x, List.mem_range.mp hx, q⟩)
      exact List.mem_map.mpr ⟨e, he, q⟩)
    rw [List.length_range, List.length_map] at k
    omega
theorem s_place (hL : Lay T) (eT : h.2.2 = T) (w : WT h t E) (h7 : t.length ≤ 7) (dt : dg t) (dl : dg l) (hl : l.length = t.length) (K1 : ∀ e ∈ E, e.1 = l → Q (some (.int (nI e.2.2))) h) (K2 : ∀ p, p < 16384 → (∀ e ∈ E, e.1 ≠ l) → gI h 67 p = -1 → St h (cd l) p → Q (some (.int (nI p))) h) : Call (d + 0) MX11_placeOf [.ref 59, .int (nI (cd l))] h Q := by
  refine s_placeOf hL eT (w.free h7) (fun p hp st => ?_)
  by_cases z : ∃ e ∈ E, e.1 = l
  · obtain ⟨e, he, q⟩ := z
    have s2 := (w.2.2.1 e he).2.2.2.2.1
    rw [q] at s2
    rw [st.uniq s2]
    exact K1 e he q
  · have no : ∀ e ∈ E, e.1 ≠ l := fun e he q => z ⟨e, he, q⟩
    refine K2 p hp no ?_ st
    by_cases y : gI h 67 p = -1
    · exact y
    · obtain ⟨e, he, q⟩ := w.2.2.2.1 p hp y
      obtain ⟨k, _, _, k3⟩ := st
      rcases k3 with k3 | k3
      · exact k3
      · have we := w.2.2.1 e he
        have de := dg_perm dt we.1
        have le := we.1.length_eq
        have e3 := we.2.2.1
        rw [q, k3] at e3
        have l1 := cd_lt dl (by omega)
        have l2 := cd_lt de (by omega)
        exact absurd (cd_inj dl de (by omega) (nI_inj (by omega) (by omega) e3)).symm (no e he)
theorem s_farOf (hL : Lay T) (eT : h.2.2 = T) (w : WT h t E) (h7 : t.length ≤ 7) (dt : dg t) (dl : dg l) (hl : l.length = t.length) (K : ∀ r, ((∃ e ∈ E, e.1 = l ∧ r = nI e.2.1) ∨ ((∀ e ∈ E, e.1 ≠ l) ∧ r = -1)) → Q (some (.int r)) h) : Call (d + 1) MX11_farOf [.ref 59, .int (nI (cd l))] h Q := by
  refine b_X11_farOf hL eT _ ?_
  have lc := cd_lt dl (by omega)
  refine s_place (d := d) hL eT w h7 dt dl hl (fun e he q => ⟨_, rfl, eT, ?_⟩) (fun p hp no g st => ⟨_, rfl, eT, ?_⟩)
  · have we := w.2.2.1 e he
    rw [nI_clamp (by omega), we.2.2.1, q, we.2.2.2.1]
    exact ⟨(inB_iff (by omega)).mpr we.2.1, fun _ => ⟨(inB_iff (by omega)).mpr we.2.1, K _ (Or.inl ⟨e, he, q, rfl⟩)⟩, fun z => absurd rfl z⟩
  · rw [nI_clamp (by omega), g]
    exact ⟨(inB_iff (by omega)).mpr hp, fun z => absurd z.symm (fun z => (nI_m1 _ (by omega)).mp z), fun _ => K _ (Or.inr ⟨no, rfl⟩)⟩
theorem WT.snoc {h' : Hp} {ds p : Nat} (w : WT h t E) (h7 : t.length ≤ 7) (dt : dg t) (hp : p < 16384) (lp : l.Perm t) (no : ∀ e ∈ E, e.1 ≠ l) (g : gI h 67 p = -1) (st : St h (cd l) p) (hd : ∃ c, IsL l t c ∧ ds + c = t.length) (g67 : ∀ j, gI h' 67 j = if j = p then nI (cd l) else gI h 67 j) (g68 : ∀ j, gI h' 68 j = if j = p then nI ds else gI h 68 j) (g69 : ∀ j, gI h' 69 j = if j = E.length then nI (cd l) else gI h 69 j) (g59 : gI h' 59 23 = nI (E.length + 1)) : WT h' t (E ++ [(l, ds, p)]) := by
  have lt : ∀ {m : List Nat}, m.Perm t → cd m < 10000000 := fun k => cd_lt (dg_perm dt k) (by have := k.length_eq; omega)
  have neg : ∀ {m : List Nat}, m.Perm t → nI (cd m) ≠ -1 := fun k q => (nI_m1 _ (by have := lt k; omega)).mp q
  have keep : ∀ {c q : Nat}, St h c q → gI h 67 q = nI c → gI h 67 q ≠ -1 → St h' c q := by
    intro c q s u v
    obtain ⟨k, a1, a2, a3⟩ := s
    refine ⟨k, a1, fun j hj => ?_, Or.inr ?_⟩
    · have := a2 j hj
      have ne : pr c j ≠ p := fun z => this.1 (by rw [z]; exact g)
      rw [g67, if_neg ne]; exact this
    · have ne : q ≠ p := fun z => v (by rw [z]; exact g)
      rw [g67, if_neg ne]; exact u
  obtain ⟨w1, w2, w3, w4, w5⟩ := w
  refine ⟨by rw [g59, List.length_append]; rfl, fun i e he => ?_, fun e he => ?_, fun q hq hn => ?_, ?_⟩
  · rw [List.getElem?_append] at he
    by_cases z : i < E.length
    · rw [if_pos z] at he
      rw [g69, if_neg (by omega)]
      exact w2 i e he
    · rw [if_neg z] at he
      have : i - E.length = 0 := by
        rcases Nat.eq_zero_or_pos (i - E.length) with y | y
        · exact y
        · rw [List.getElem?_eq_none (by exact y)] at he
          exact absurd he (by simp)
      rw [this] at he
      have e0 : (l, ds, p) = e := by simpa using he
      rw [g69, if_pos (by omega), ← e0]
  · rcases List.mem_append.mp he with q | q
    · obtain ⟨a1, a2, a3, a4, a5, a6⟩ := w3 e q
      have v : gI h 67 e.2.2 ≠ -1 := by rw [a3]; exact neg a1
      have ne : e.2.2 ≠ p := fun z => v (by rw [z]; exact g)
      exact ⟨a1, a2, by rw [g67, if_neg ne]; exact a3, by rw [g68, if_neg ne]; exact a4, keep a5 a3 v, a6⟩
    · rw [List.mem_singleton.mp q]
      refine ⟨lp, hp, by rw [g67, if_pos rfl], by rw [g68, if_pos rfl], ?_, hd⟩
      obtain ⟨k, a1, a2, a3⟩ := st
      refine ⟨k, a1, fun j hj => ?_, Or.inr (by rw [g67, if_pos rfl])⟩
      have := a2 j hj
      have ne : pr (cd l) j ≠ p := fun z => this.1 (by rw [z]; exact g)
      rw [g67, if_neg ne]; exact this
  · by_cases z : q = p
    · exact ⟨(l, ds, p), List.mem_append.mpr (Or.inr (List.mem_singleton.mpr rfl)), z.symm⟩
    · rw [g67, if_neg z] at hn
      obtain ⟨e, he, y⟩ := w4 q hq hn
      exact ⟨e, List.mem_append.mpr (Or.inl he), y⟩
  · rw [List.map_append, List.nodup_append]
    refine ⟨w5, List.nodup_cons.mpr ⟨List.not_mem_nil, List.nodup_nil⟩, fun a ha b hb q => ?_⟩
    obtain ⟨e, he, y⟩ := List.mem_map.mp ha
    have : b = l := List.mem_singleton.mp hb
    exact no e he (y.trans (q.trans this))
def Fr (h h' : Hp) : Prop := h'.2 = h.2 ∧ (∀ b j, b ≠ 67 → b ≠ 68 → b ≠ 69 → b ≠ 70 → (b = 59 → j ≠ 23) → gI h' b j = gI h b j)
theorem Fr.trans {h1 h2 h3 : Hp} (a : Fr h1 h2) (b : Fr h2 h3) : Fr h1 h3 := ⟨b.1.trans a.1, fun x j u v w y z => (b.2 x j u v w y z).trans (a.2 x j u v w y z)⟩
theorem WT.fr70 {h' : Hp} (w : WT h t E) (g : ∀ x j, x ≠ 70 → gI h' x j = gI h x j) : WT h' t E := by
  obtain ⟨w1, w2, w3, w4, w5⟩ := w
  refine ⟨by rw [g _ _ (by decide)]; exact w1, fun i e he => by rw [g _ _ (by decide)]; exact w2 i e he, fun e he => ?_, fun p hp hn => w4 p hp (by rw [g _ _ (by decide)] at hn; exact hn), w5⟩
  obtain ⟨a1, a2, a3, a4, ⟨k, b1, b2, b3⟩, a6⟩ := w3 e he
  refine ⟨a1, a2, by rw [g _ _ (by decide)]; exact a3, by rw [g _ _ (by decide)]; exact a4, ⟨k, b1, fun j hj => by rw [g _ _ (by decide)]; exact b2 j hj, by rw [g _ _ (by decide)]; exact b3⟩, a6⟩
theorem s_comes (hL : Lay T) (eT : h.2.2 = T) (w : WT h t E) (h7 : t.length ≤ 7) (dt : dg t) (lp : l.Perm t) {ds : Nat} (hd : (∀ e ∈ E, e.1 ≠ l) → ∃ c, IsL l t c ∧ ds + c = t.length) (K1 : (∃ e ∈ E, e.1 = l) → Q none h) (K2 : ∀ (h' : Hp) (p : Nat), Fr h h' → (∀ e ∈ E, e.1 ≠ l) → WT h' t (E ++ [(l, ds, p)]) → Q none h') : Call (d + 1) MX11_comes [.ref 59, .int (nI (cd l)), .int (nI ds)] h Q := by
  refine b_X11_comes hL eT _ _ ?_
  have dl := dg_perm dt lp
  have hl := lp.length_eq
  have lc := cd_lt dl (by omega)
  refine s_place (d := d) hL eT w h7 dt dl hl (fun e he q => ⟨_, rfl, eT, ?_⟩) (fun p hp no g st => ⟨_, rfl, eT, ?_⟩)
  · have we := w.2.2.1 e he
    rw [nI_clamp (by omega), we.2.2.1, q]
    exact ⟨(inB_iff (by omega)).mpr we.2.1, fun _ => K1 ⟨e, he, q⟩, fun z => absurd rfl z⟩
  · have ew : gI (sI (sI h 67 p (nI (cd l))) 68 p (nI ds)) 59 23 = nI E.length := by
      rw [gI_sI_ne (by decide), gI_sI_ne (by decide)]; exact w.1
    have fw := w.few h7
    rw [nI_clamp (by omega), g, ew, nI_clamp (by omega)]
    have ew2 : gI (sI (sI (sI h 67 p (nI (cd l))) 68 p (nI ds)) 69 E.length (nI (cd l))) 59 23 = nI E.length := by
      rw [gI_sI_ne (by decide)]; exact ew
    rw [ew2, nI_add]
    have w' : WT (sI (sI (sI (sI h 67 p (nI (cd l))) 68 p (nI ds)) 69 E.length (nI (cd l))) 59 23 (nI (E.length + 1))) t (E ++ [(l, ds, p)]) := by
      refine w.snoc h7 dt hp lp no g st (hd no) (fun j => ?_) (fun j => ?_) (fun j => ?_) (by rw [gI_sI_at, if_pos rfl])
      · rw [gI_sI_ne (by decide), gI_sI_ne (by decide), gI_sI_ne (by decide), gI_sI_at]
      · rw [gI_sI_ne (by decide), gI_sI_ne (by decide), gI_sI_at, gI_sI_ne (by decide)]
      · rw [gI_sI_ne (by decide), gI_sI_at, gI_sI_ne (by decide), gI_sI_ne (by decide)]
    have f2 := w'.few h7
    rw [List.length_append] at f2
    have f3 : E.length < 5040 := f2
    refine ⟨(inB_iff (by omega)).mpr hp, fun z => absurd z.symm (fun z => (nI_m1 _ (by omega)).mp z), fun _ => ⟨(inB_iff (by omega)).mpr hp, (inB_iff (by omega)).mpr hp, (inB_iff (by omega)).mpr f3, K2 _ p ⟨rfl, fun b j a1 a2 a3 a4 a5 => ?_⟩ no w'⟩⟩
    rw [gI_sI, if_neg (fun z => a5 z.1 z.2), gI_sI_ne a3, gI_sI_ne a2, gI_sI_ne a1]
end Wt
-- the order of the search
def In1 (E : List (List Nat × Nat × Nat)) (l : List Nat) : Prop := ∃ e ∈ E, e.1 = l
def BJ (t : List Nat) (E : List (List Nat × Nat × Nat)) (x : Nat) : Prop := (∀ (i j : Nat) e f, i ≤ j → E[i]? = some e → E[j]? = some f → e.2.1 ≤ f.2.1) ∧ (∀ i e, i < x → E[i]? = some e → ∀ a b, a < t.length → b < t.length → a ≠ b → In1 E (liftL e.1 a b)) ∧ (∀ e, E[x]? = some e → (∀ f ∈ E, f.2.1 ≤ e.2.1 + 1) ∧ ∀ l c, l.Perm t → IsL l t c → t.length ≤ e.2.1 + c → In1 E l) ∧ In1 E t ∧ (∀ e ∈ E, e.1.Perm t ∧ ∃ c, IsL e.1 t c ∧ e.2.1 + c = t.length)
section Bj
variable {t : List Nat} {E : List (List Nat × Nat × Nat)} {x : Nat}
theorem In1.snoc {l : List Nat} {f : List Nat × Nat × Nat} (k : In1 E l) : In1 (E ++ [f]) l := by
  obtain ⟨e, he, q⟩ := k
  exact ⟨e, List.mem_append.mpr (Or.inl he), q⟩
theorem get_snoc {f e : List Nat × Nat × Nat} {i : Nat} (k : (E ++ [f])[i]? = some e) : (i < E.length ∧ E[i]? = some e) ∨ (i = E.length ∧ e = f) := by
  rw [List.getElem?_append] at k
  by_cases z : i < E.length
  · rw [if_pos z] at k; exact Or.inl ⟨z, k⟩
  · rw [if_neg z] at k
    have : i - E.length = 0 := by
      rcases Nat.eq_zero_or_pos (i - E.length) with y | y
      · exact y
      · rw [List.getElem?_eq_none (by exact y)] at k
        exact absurd k (by simp)
    rw [this] at k
    have e0 : f = e := by simpa using k
    exact Or.inr ⟨by omega, e0.symm⟩
theorem BJ.snoc (b : BJ t E x) {e : List Nat × Nat × Nat} (he : E[x]? = some e) {l : List Nat} {p : Nat} (lp : l.Perm t) (hd : ∃ c, IsL l t c ∧ e.2.1 + 1 + c = t.length) : BJ t (E ++ [(l, e.2.1 + 1, p)]) x := by
  obtain ⟨b1, b2, b3, b4, b5⟩ := b
  have hx : x < E.length := by
    obtain ⟨z, _⟩ := List.getElem?_eq_some_iff.mp he
    exact z
  refine ⟨fun i j u v hij hu hv => ?_, fun i u hi hu a b ha hb hab => ?_, fun u hu => ?_, b4.snoc, fun u hu => ?_⟩
  · rcases get_snoc hv with ⟨y, hv⟩ | ⟨y, hv⟩
    · rcases get_snoc hu with ⟨z, hu⟩ | ⟨z, hu⟩
      · exact b1 i j u v hij hu hv
      · omega
    · rcases get_snoc hu with ⟨z, hu⟩ | ⟨z, hu⟩
      · rw [hv]; exact (b3 e he).1 u (List.mem_of_getElem? hu)
      · rw [hu, hv]; exact Nat.le_refl _
  · rcases get_snoc hu with ⟨z, hu⟩ | ⟨z, hu⟩
    · exact (b2 i u hi hu a b ha hb hab).snoc
    · omega
  · rcases get_snoc hu with ⟨z, hu⟩ | ⟨z, hu⟩
    · rw [he] at hu
      have eu : e = u := Option.some.inj hu
      subst eu
      obtain ⟨c1, c2⟩ := b3 e he
      refine ⟨fun f hf => ?_, fun m c u v w => (c2 m c u v w).snoc⟩
      rcases List.mem_append.mp hf with q | q
      · exact c1 f q
      · rw [List.mem_singleton.mp q]; exact Nat.le_refl _
    · omega
  · rcases List.mem_append.mp hu with q | q
    · exact b5 u q
    · rw [List.mem_singleton.mp q]; exact ⟨lp, hd⟩
theorem BJ.new (b : BJ t E x) {e : List Nat × Nat × Nat} (he : E[x]? = some e) {a c : Nat} (ha : a < t.length) (hc : c < t.length) (no : ¬ In1 E (liftL e.1 a c)) : ∃ k, IsL (liftL e.1 a c) t k ∧ e.2.1 + 1 + k = t.length := by
  obtain ⟨b1, b2, b3, b4, b5⟩ := b
  obtain ⟨ep, k, k1, k2⟩ := b5 e (List.mem_of_getElem? he)
  have el := ep.length_eq
  obtain ⟨k', k3⟩ := IsL.ex (liftL e.1 a c) t
  have m1 := lift_lc2 (by omega) (by omega) k1 k3
  have m2 : ¬ t.length ≤ e.2.1 + k' := fun z => no ((b3 e he).2 _ k' ((lift_perm (by omega) (by omega)).trans ep) k3 z)
  exact ⟨k', k3, by omega⟩
theorem BJ.next (b : BJ t E x) {e : List Nat × Nat × Nat} (he : E[x]? = some e) (all : ∀ a c, a < t.length → c < t.length → a ≠ c → In1 E (liftL e.1 a c)) : BJ t E (x + 1) := by
  obtain ⟨b1, b2, b3, b4, b5⟩ := b
  have b2' : ∀ i e, i < x + 1 → E[i]? = some e → ∀ a b, a < t.length → b < t.length → a ≠ b → In1 E (liftL e.1 a b) := by
    intro i f hi hf
    by_cases z : i = x
    · rw [z, he] at hf
      rw [← Option.some.inj hf]; exact all
    · exact b2 i f (by omega) hf
  refine ⟨b1, b2', fun f hf => ?_, b4, b5⟩
  obtain ⟨c1, c2⟩ := b3 e he
  have d1 := c1 f (List.mem_of_getElem? hf)
  have d2 := b1 x (x + 1) e f (by omega) he hf
  refine ⟨fun g hg => by have := c1 g hg; omega, fun l c lp k hk => ?_⟩
  by_cases z : t.length ≤ e.2.1 + c
  · exact c2 l c lp k z
  · obtain ⟨a, b, ha, hb, hab, k'⟩ := lift_up lp k (by omega)
    have ll := lp.length_eq
    obtain ⟨g, hg, eg⟩ := c2 (liftL l a b) (c + 1) ((lift_perm ha hb).trans lp) k' (by omega)
    obtain ⟨_, cg, kg, sg⟩ := b5 g hg
    rw [eg] at kg
    have := kg.uniq k'
    obtain ⟨i, hi, ei⟩ := List.getElem_of_mem hg
    have gi : E[i]? = some g := by rw [List.getElem?_eq_getElem hi, ei]
    have ix : i < x + 1 := by
      rcases Nat.lt_or_ge i (x + 1) with q | q
      · exact q
      · have := b1 (x + 1) i f g q hf gi
        omega
    have := b2' i g ix gi b a (by omega) (by omega) (fun q => hab q.symm)
    rw [eg, lift_inv ha hb] at this
    exact this
theorem BJ.fin (b : BJ t E x) (hx : E.length ≤ x) : ∀ l, l.Perm t → In1 E l := by
  obtain ⟨b1, b2, b3, b4, b5⟩ := b
  have key : ∀ k l c, l.Perm t → IsL l t c → c + k = t.length → In1 E l := by
    intro k
    induction k with
    | zero =>
      intro l c lp kl hc
      have : c = t.length := hc
      subst this
      rw [kl.full lp.length_eq]; exact b4
    | succ k ih =>
      intro l c lp kl hc
      obtain ⟨a, b, ha, hb, hab, k'⟩ := lift_up lp kl (by omega)
      have ll := lp.length_eq
      obtain ⟨g, hg, eg⟩ := ih (liftL l a b) (c + 1) ((lift_perm ha hb).trans lp) k' (by omega)
      obtain ⟨i, hi, ei⟩ := List.getElem_of_mem hg
      have gi : E[i]? = some g := by rw [List.getElem?_eq_getElem hi, ei]
      have := b2 i g (by omega) gi b a (by omega) (by omega) (fun q => hab q.symm)
      rw [eg, lift_inv ha hb] at this
      exact this
  intro l lp
  obtain ⟨c, kc⟩ := IsL.ex l t
  have := kc.le
  exact key (t.length - c) l c lp kc (by omega)
end Bj
