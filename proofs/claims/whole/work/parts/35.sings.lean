-- rows of strands that are permutations
def pm (n : Nat) (l : List Nat) : Prop := l.length = n ∧ nd l ∧ (∀ i, i < n → l.getD i 0 < n) ∧ ∀ x, x < n → ∃ i, i < n ∧ l.getD i 0 = x
theorem pm_sm {n : Nat} {l : List Nat} (h : pm n l) (h16 : n ≤ 16) : sm l := by
  intro x hx
  obtain ⟨i, hi, e⟩ := List.getElem_of_mem hx
  have := h.2.2.1 i (by rw [← h.1]; exact hi)
  rw [List.getD_eq_getElem?_getD, List.getElem?_eq_getElem hi, Option.getD_some, e] at this
  omega
theorem pm_of {n : Nat} {l l' : List Nat} (hp : pm n l) (hlen : l'.length = n) (σ τ : Nat → Nat) (h1 : ∀ i, i < n → σ i < n) (h2 : ∀ i, i < n → τ i < n) (h3 : ∀ i, i < n → σ (τ i) = i) (h4 : ∀ i, i < n → τ (σ i) = i) (e : ∀ i, i < n → l'.getD i 0 = l.getD (σ i) 0) : pm n l' := by
  obtain ⟨p1, p2, p3, p4⟩ := hp
  refine ⟨hlen, fun i j hi hj q => ?_, fun i hi => ?_, fun x hx => ?_⟩
  · rw [hlen] at hi hj
    rw [e i hi, e j hj] at q
    have := p2 _ _ (by rw [p1]; exact h1 i hi) (by rw [p1]; exact h1 j hj) q
    rw [← h4 i hi, ← h4 j hj, this]
  · rw [e i hi]; exact p3 _ (h1 i hi)
  · obtain ⟨i, hi, q⟩ := p4 x hx
    exact ⟨τ i, h2 i hi, by rw [e _ (h2 i hi), h3 i hi, q]⟩
theorem pm_turn {n : Nat} {l : List Nat} (hp : pm n l) {k : Nat} (hk : k < n) : pm n (turnL l k) := by
  have hl := hp.1
  refine pm_of hp (by rw [len_turn, hl]) (fun s => if s < k then s + n - k else s - k) (fun s => if s + k < n then s + k else s + k - n) ?_ ?_ ?_ ?_ ?_
  · intro i hi; split <;> omega
  · intro i hi; split <;> omega
  · intro i hi; split <;> split <;> omega
  · intro i hi; split <;> split <;> omega
  · intro i hi
    rw [turnL_get (by omega) (by omega), hl]
    split <;> rfl
theorem pm_lift {n : Nat} {l : List Nat} (hp : pm n l) {a b : Nat} (ha : a < n) (hb : b < n) : pm n (liftL l a b) := by
  have hl := hp.1
  refine pm_of hp (by rw [len_lift (by omega) (by omega), hl]) (fun j => if j = b then a else if a ≤ j ∧ j < b then j + 1 else if b < j ∧ j ≤ a then j - 1 else j) (fun j => if j = a then b else if b ≤ j ∧ j < a then j + 1 else if a < j ∧ j ≤ b then j - 1 else j) ?_ ?_ ?_ ?_ ?_
  · intro i hi; split <;> try omega
    split <;> try omega
    split <;> omega
  · intro i hi; split <;> try omega
    split <;> try omega
    split <;> omega
  · intro i hi
    repeat' split
    all_goals omega
  · intro i hi
    repeat' split
    all_goals omega
  · intro i hi
    rw [liftL_get (by omega) (by omega)]
    split <;> try rfl
    split <;> try rfl
    split <;> rfl
theorem pm_swap {n : Nat} {l : List Nat} (hp : pm n l) {a b : Nat} (ha : a < n) (hb : b < n) : pm n (swapL l a b) := by
  have hl := hp.1
  refine pm_of hp (by rw [len_swap, hl]) (fun j => if j = b then a else if j = a then b else j) (fun j => if j = b then a else if j = a then b else j) ?_ ?_ ?_ ?_ ?_
  · intro i hi; split <;> try omega
    split <;> omega
  · intro i hi; split <;> try omega
    split <;> omega
  · intro i hi
    repeat' split
    all_goals omega
  · intro i hi
    repeat' split
    all_goals omega
  · intro i hi
    rw [swapL_get (by omega) (by omega)]
    split <;> try rfl
    split <;> rfl
theorem pm_mk1 {n : Nat} {l : List Nat} {m : Mv} (hp : pm n l) (h0 : 0 < n) (hm : mvN n m) : pm n (mk1 l m) := by
  unfold mk1
  rw [hp.1]
  split
  · exact pm_turn hp (Nat.mod_lt _ h0)
  · rename_i q
    have := hm.2.2.1 (by have := hm.1; omega)
    split
    · exact pm_lift hp this.1 this.2
    · exact pm_swap hp this.1 this.2
theorem pm_mvd {n : Nat} {l c : List Nat} {dr : Nat} {m : Mv} (hp : pm n l) (h0 : 0 < n) (hm : mvN n m) : pm n (mvd c dr l m) := by
  unfold mvd mv1
  split
  · exact hp
  · split
    · exact pm_mk1 hp h0 hm
    · split
      · exact pm_mk1 hp h0 hm
      · exact hp
theorem pm_sing {n : Nat} {c : List Nat} {dr : Nat} (h0 : 0 < n) : ∀ {s : List Mv} {l : List Nat}, pm n l → sgN n s → pm n (singD c dr l s)
  | [], l, h, _ => h
  | m :: s, l, h, hs => pm_sing (s := s) h0 (pm_mvd h h0 (hs m List.mem_cons_self)) (fun x hx => hs x (List.mem_cons_of_mem _ hx))
theorem getD_range (n i : Nat) : (List.range n).getD i 0 = if i < n then i else 0 := by
  by_cases q : i < n
  · rw [if_pos q, List.getD_eq_getElem?_getD, List.getElem?_range q]; rfl
  · rw [if_neg q, List.getD_eq_getElem?_getD, List.getElem?_eq_none (by rw [List.length_range]; omega)]; rfl
theorem pm_range (n : Nat) : pm n (List.range n) := by
  refine ⟨List.length_range, fun i j hi hj q => ?_, fun i hi => ?_, fun x hx => ⟨x, hx, ?_⟩⟩
  · rw [List.length_range] at hi hj
    rw [getD_range, getD_range, if_pos hi, if_pos hj] at q
    exact q
  · rw [getD_range, if_pos hi]; exact hi
  · rw [getD_range, if_pos hx]
-- the model's row 60: slots, colours, songs
def MB (h : Hp) (n : Nat) (c : List Nat) (sg : Nat → List Mv) : Prop := gI h 60 0 = nI n ∧ (4 ≤ n ∧ n ≤ 16) ∧ (MC h 60 c ∧ sm c ∧ c.length ≤ 16) ∧ ∀ k, k < 4 → MG h 60 k (sg k) ∧ sgN n (sg k)
theorem MB.tr {h h' : Hp} {n : Nat} {c : List Nat} {sg : Nat → List Mv} (b : MB h n c sg) (e : ∀ j, (j = 0 ∨ (10 ≤ j ∧ j < 26) ∨ 975 ≤ j) → gI h' 60 j = gI h 60 j) : MB h' n c sg := by
  obtain ⟨b1, b2, ⟨b3, b4, b5⟩, b6⟩ := b
  refine ⟨by rw [e _ (Or.inl rfl)]; exact b1, b2, ⟨fun s hs => by rw [e _ (by omega)]; exact b3 s hs, b4, b5⟩, fun k hk => ⟨⟨(b6 k hk).1.1, by rw [e _ (by omega)]; exact (b6 k hk).1.2.1, fun i hi => ?_⟩, (b6 k hk).2⟩⟩
  rw [e _ (by omega), e _ (by omega), e _ (by omega), e _ (by omega)]
  exact (b6 k hk).1.2.2 i hi
theorem OvC.zero {h h' : Hp} {x : Nat} {Y : Nat → Prop} (o : OvC h h' x Y 0) (j : Nat) : gI h' 60 j = gI h 60 j := by
  by_cases q : j < 60 ∨ 316 ≤ j
  · exact o.1 j q
  · have e : j = 60 + 16 * ((j - 60) / 16) + (j - 60) % 16 := by omega
    obtain ⟨o1, o2⟩ := o.2 ((j - 60) / 16) ((j - 60) % 16) (by omega) (by omega)
    rw [← e] at o1 o2
    by_cases w : (j - 60) / 16 = x ∧ Y ((j - 60) % 16)
    · rw [o1 w]; exact Int32.add_zero _
    · exact o2 w
/-- the song as it is sung: straight or mirrored -/
def mrs (n mi : Nat) (s : List Mv) : List Mv := if mi = 1 then s.map (mir n) else s
theorem len_mrs (n mi : Nat) (s : List Mv) : (mrs n mi s).length = s.length := by
  unfold mrs
  split
  · exact List.length_map _
  · rfl
theorem gM_mrs {n mi : Nat} {s : List Mv} {i : Nat} (hi : i < s.length) : gM (mrs n mi s) i = if mi = 1 then mir n (gM s i) else gM s i := by
  unfold mrs gM
  split
  · rw [List.getD_eq_getElem?_getD, List.getElem?_map, List.getElem?_eq_getElem hi, List.getD_eq_getElem?_getD, List.getElem?_eq_getElem hi]
    rfl
  · rfl
theorem mrs_ok {n mi : Nat} {s : List Mv} (h : sgN n s) (h0 : 0 < n) (h16 : n ≤ 16) : sgN n (mrs n mi s) := by
  unfold mrs
  split
  · intro m hm
    obtain ⟨a, ha, e⟩ := List.mem_map.mp hm
    rw [← e]
    exact mir_ok (h a ha) h0 h16
  · exact h
theorem singD_succ {c : List Nat} {dr : Nat} {l : List Nat} {s : List Mv} {i : Nat} (hi : i < s.length) : singD c dr l (s.take (i + 1)) = mvd c dr (singD c dr l (s.take i)) (gM s i) := by
  unfold singD
  rw [take_succ_gM hi, List.foldl_append]
  rfl
section MSings
variable {d : Nat} {T : HT} {h : Hp} {Q : Option Value → Hp → Prop}
theorem s_sitsAtFirst (hL : Lay T) (eT : h.2.2 = T) {n : Nat} (hn : gI h 60 0 = nI n) (h16 : n ≤ 16) (k : ∀ h' : Hp, h'.2 = h.2 → (∀ b j, b ≠ 65 → gI h' b j = gI h b j) → MS h' (List.range n) → Q none h') : Call (d + 0) MX11_sitsAtFirst [.ref 59] h Q := by
  refine b_X11_sitsAtFirst hL eT (upto n (fun i h1 => h1.2 = h.2 ∧ (∀ b j, b ≠ 65 → gI h1 b j = gI h b j) ∧ ∀ j, j < i → gI h1 65 j = nI j) (fun i h1 => L_X11_sitsAtFirst_2 d (nI i) h1 Q) ?_ ?_ 0 h (Nat.zero_le _) ⟨rfl, fun b j _ => rfl, fun j hj => by omega⟩)
  · rintro i h1 hi ⟨e2, hg, hj⟩ ih
    have e0 : gI h1 60 0 = nI n := by rw [hg _ _ (by decide)]; exact hn
    refine b_X11_sitsAtFirst_2 hL (e2T e2 eT) _ ⟨fun _ => ?_, fun c => ?_⟩
    · simp (disch := omega) only [nI_add, pk_mul, pk_sub, nI_clamp, nI_ltI, nI_leI, nI_eq, irem_nI, inB_iff, nI_lt0, nI_eq0, nI_gt0]
      refine ⟨by omega, ih _ ⟨e2, fun b j hb => ?_, fun j hj' => ?_⟩⟩
      · rw [gI_sI_ne hb, hg b j hb]
      · rw [gI_sI_at]
        by_cases q : j = i
        · rw [if_pos q, q]
        · rw [if_neg q]; exact hj j (by omega)
    · rw [e0] at c
      exact absurd (nI_lt hi (by omega)) c
  · rintro h1 ⟨e2, hg, hj⟩
    have e0 : gI h1 60 0 = nI n := by rw [hg _ _ (by decide)]; exact hn
    refine b_X11_sitsAtFirst_2 hL (e2T e2 eT) _ ⟨fun c => ?_, fun _ => k h1 e2 hg (fun s hs => ?_)⟩
    · rw [e0] at c
      exact absurd c (nI_nlt (Nat.le_refl _) (by omega))
    · rw [List.length_range] at hs
      rw [getD_range, if_pos hs]
      exact hj s hs
theorem s_sings (hL : Lay T) (eT : h.2.2 = T) {n : Nat} {c l : List Nat} {sg : Nat → List Mv} (hb : MB h n c sg) (hp : pm n l) (hs : MS h l) {k mi dr : Nat} (hk : k < 4) (hmi : mi < 2) {x5 : Int32} (hx5 : ∀ v, v < 16 → (nI v = x5 ↔ v = dr))
    (K : ∀ h' : Hp, h'.2 = h.2 → (∀ x j, x ≠ 65 → x ≠ 66 → gI h' x j = gI h x j) → MS h' (singD c dr l (mrs n mi (sg k))) → Q none h') : Call (d + 3) MX11_sings [.ref 59, .int (nI k), .int (nI mi), .int x5] h Q := by
  obtain ⟨b1, ⟨b2, b3⟩, ⟨b4, b5, b6⟩, b7⟩ := id hb
  obtain ⟨hG, hN⟩ := b7 k hk
  have h200 := hG.1
  have hN' : sgN n (mrs n mi (sg k)) := mrs_ok hN (by omega) b3
  have hpi : ∀ i, pm n (singD c dr l ((mrs n mi (sg k)).take i)) := fun i => pm_sing (by omega) hp (fun m hm => hN' m (List.mem_of_mem_take hm))
  have hev : ∀ h1 : Hp, (∀ x j, x ≠ 65 → x ≠ 66 → gI h1 x j = gI h x j) → gI h1 60 (975 + k) = nI (sg k).length := fun h1 g => by rw [g _ _ (by decide) (by decide)]; exact hG.2.1
  refine b_X11_sings hL eT _ _ _ (upto (sg k).length (fun i h1 => h1.2 = h.2 ∧ (∀ x j, x ≠ 65 → x ≠ 66 → gI h1 x j = gI h x j) ∧ MS h1 (singD c dr l ((mrs n mi (sg k)).take i))) (fun i h1 => L_X11_sings_3 d (nI k) (nI mi) x5 (nI i) h1 Q) ?_ ?_ 0 h (Nat.zero_le _) ⟨rfl, fun _ _ _ _ => rfl, hs⟩)
  · rintro i h1 hi ⟨e2, g, hS⟩ ih
    have hb1 : MB h1 n c sg := hb.tr (fun j _ => g _ _ (by decide) (by decide))
    obtain ⟨c1, ⟨c2, c3⟩, ⟨c4, c5, c6⟩, c7⟩ := hb1
    have hp1 := hpi i
    have hl := hp1.1
    refine b_X11_sings_3 hL (e2T e2 eT) _ _ _ _ ?_
    rw [nI_add, nI_clamp (by omega), hev h1 g]
    have hstep : ∀ h2 : Hp, h2.2 = h1.2 → (∀ x j, x ≠ 65 → x ≠ 66 → gI h2 x j = gI h1 x j) → MS h2 (mvd c dr (singD c dr l ((mrs n mi (sg k)).take i)) (gM (mrs n mi (sg k)) i)) → L_X11_sings_3 d (nI k) (nI mi) x5 (nI i + nI 1) h2 Q := by
      intro h2 e3 g3 s3
      rw [nI_add]
      refine ih h2 ⟨e3.trans e2, fun x j u v => by rw [g3 x j u v, g x j u v], ?_⟩
      rw [singD_succ (by rw [len_mrs]; exact hi)]
      exact s3
    refine ⟨(inB_iff (by omega)).mpr (by omega), fun _ => ?_, fun q => absurd (nI_lt hi (by omega)) q⟩
    have eg := gM_mrs (n := n) (mi := mi) hi
    refine s_moves (d := d) (c := c) hL (e2T e2 eT) (by rw [hl]; exact c1) (by omega) hS c4 c5 (pm_sm hp1 c3) hp1.2.1 (by omega) hk (c7 k hk).1 (by rw [hl]; exact (c7 k hk).2) hi (m := gM (mrs n mi (sg k)) i) hmi (by decide : (0 : Nat) < 2) hx5 (by decide : (1 : Nat) < 2) (by rw [hl]; exact eg) ?_ ?_ ?_
    · intro q h2 e3 g3 s3
      refine ⟨_, rfl, e2T (e3.trans e2) eT, hstep h2 e3 g3 ?_⟩
      unfold mvd mv1
      rw [if_neg (fun z => z.1 q), if_pos q]
      exact s3
    · intro q z
      refine ⟨_, rfl, e2T e2 eT, hstep h1 rfl (fun _ _ _ _ => rfl) ?_⟩
      unfold mvd mv1
      by_cases w : (singD c dr l ((mrs n mi (sg k)).take i)).getD (gM (mrs n mi (sg k)) i).2.1 0 = dr
      · rw [if_pos ⟨q, w⟩]; exact hS
      · rw [if_neg (fun y => w y.2), if_neg q, if_neg (z.elim (fun y => absurd y w) (fun y => y.2))]; exact hS
    · intro q w z h2 e3 g3 s3 o
      refine ⟨_, rfl, e2T (e3.trans e2) eT, hstep h2 e3 (fun x j u v => ?_) ?_⟩
      · by_cases y : x = 60
        · rw [y]; exact o.zero j
        · exact g3 x j y u
      · unfold mvd mv1
        rw [if_neg (fun y => w y.2), if_neg q, if_pos (z rfl)]; exact s3
  · rintro h1 ⟨e2, g, hS⟩
    refine b_X11_sings_3 hL (e2T e2 eT) _ _ _ _ ?_
    rw [nI_add, nI_clamp (by omega), hev h1 g]
    refine ⟨(inB_iff (by omega)).mpr (by omega), fun q => absurd q (nI_nlt (Nat.le_refl _) (by omega)), fun _ => K h1 e2 g ?_⟩
    rw [List.take_of_length_le (by rw [len_mrs]; exact Nat.le_refl _)] at hS
    exact hS
end MSings
