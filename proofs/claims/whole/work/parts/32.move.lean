-- a move: kind (0 lift, 1 swap, 2 turn), two slots, the colour asked and one (0: none)
abbrev Mv : Type := Nat × Nat × Nat × Nat
def pk (m : Mv) : Nat := m.1 + 4 * m.2.1 + 64 * m.2.2.1 + 1024 * m.2.2.2
def mvN (n : Nat) (m : Mv) : Prop := m.1 ≤ 2 ∧ m.2.2.2 ≤ 10 ∧ (m.1 < 2 → m.2.1 < n ∧ m.2.2.1 < n) ∧ (m.1 = 2 → m.2.1 < 16 ∧ m.2.2.1 = 0 ∧ m.2.2.2 = 0)
theorem mv_b {n : Nat} {m : Mv} (h : mvN n m) (hn : n ≤ 16) : m.1 < 4 ∧ m.2.1 < 16 ∧ m.2.2.1 < 16 ∧ m.2.2.2 ≤ 10 ∧ pk m < 16384 := by
  obtain ⟨h1, h2, h3, h4⟩ := h
  have h5 : m.2.1 < 16 ∧ m.2.2.1 < 16 := by
    rcases Nat.lt_or_ge m.1 2 with q | q
    · have := h3 q; omega
    · have := h4 (by omega); omega
  unfold pk
  omega
theorem ushrN {n : Nat} (hn : n < 2 ^ 32) {k : Nat} (hk : k < 32) : ushr (nI n) (nI k) = nI (n / 2 ^ k) := pk_ushrN hn (nI k) k (s_u k hk)
theorem kind_pk {m : Mv} (h : m.1 < 4) : r_X4_kind (nI (pk m)) = nI m.1 := by
  unfold r_X4_kind
  have e := fa_mask (pk m) 2
  rw [show (2 : Nat) ^ 2 - 1 = 3 by decide, show (2 : Nat) ^ 2 = 4 by decide] at e
  rw [e]
  congr 1
  unfold pk
  omega
theorem and15 (n : Nat) : nI n &&& nI 15 = nI (n % 16) := fa_mask n 4
theorem from_pk {m : Mv} (h0 : m.1 < 4) (h1 : m.2.1 < 16) (hp : pk m < 16384) : r_X4_from (nI (pk m)) = nI m.2.1 := by
  unfold r_X4_from
  rw [ushrN (by omega) (by decide), and15]
  congr 1
  unfold pk
  omega
theorem to_pk {m : Mv} (h0 : m.1 < 4) (h1 : m.2.1 < 16) (h2 : m.2.2.1 < 16) (hp : pk m < 16384) : r_X4_to (nI (pk m)) = nI m.2.2.1 := by
  unfold r_X4_to
  rw [ushrN (by omega) (by decide), and15]
  congr 1
  unfold pk
  omega
theorem asked_pk {m : Mv} (h0 : m.1 < 4) (h1 : m.2.1 < 16) (h2 : m.2.2.1 < 16) (hp : pk m < 16384) : r_X4_asked (nI (pk m)) = nI m.2.2.2 - nI 1 := by
  unfold r_X4_asked
  rw [ushrN (by omega) (by decide)]
  congr 2
  unfold pk
  omega
theorem noask_pk {m : Mv} (h0 : m.1 < 4) (h1 : m.2.1 < 16) (h2 : m.2.2.1 < 16) : r_X4_withoutAsking (nI (pk m)) = nI (pk (m.1, m.2.1, m.2.2.1, 0)) := by
  unfold r_X4_withoutAsking
  have e := fa_mask (pk m) 10
  rw [show (2 : Nat) ^ 10 - 1 = 1023 by decide, show (2 : Nat) ^ 10 = 1024 by decide] at e
  rw [e]
  congr 1
  unfold pk
  dsimp only
  omega
theorem ask_m1 {c : Nat} (h : c ≤ 10) : (nI c - nI 1 = (-1)) ↔ c = 0 := by
  have : ∀ c, c ≤ 10 → ((nI c - nI 1 = (-1)) ↔ c = 0) := by decide +kernel
  exact this c h
theorem packed_pk {k a b c : Nat} (x : Int32) (hx : x + nI 1 = nI c) (hk : k < 4) (ha : a < 16) (hb : b < 16) (hc : c ≤ 10) : r_X4_packed (nI k) (nI a) (nI b) x = nI (pk (k, a, b, c)) := by
  unfold r_X4_packed
  have s2 : ∀ n, n < 1000 → nI n <<< (nI 2 &&& 31) = nI (n * 2 ^ 2) := fun n hn => pk_shlN (nI 2 &&& 31) 2 (by decide) (by omega)
  have s6 : ∀ n, n < 1000 → nI n <<< (nI 6 &&& 31) = nI (n * 2 ^ 6) := fun n hn => pk_shlN (nI 6 &&& 31) 6 (by decide) (by omega)
  have s10 : ∀ n, n < 1000 → nI n <<< (nI 10 &&& 31) = nI (n * 2 ^ 10) := fun n hn => pk_shlN (nI 10 &&& 31) 10 (by decide) (by omega)
  rw [hx, s2 a (by omega), s6 b (by omega), s10 c (by omega), fa_or, fa_or, fa_or]
  congr 1
  rw [Nat.or_comm k, Nat.mul_comm a, ← Nat.two_pow_add_eq_or_of_lt (by omega : k < 2 ^ 2), Nat.or_comm _ (b * 2 ^ 6), Nat.mul_comm b, ← Nat.two_pow_add_eq_or_of_lt (by omega : 2 ^ 2 * a + k < 2 ^ 6), Nat.or_comm _ (c * 2 ^ 10), Nat.mul_comm c, ← Nat.two_pow_add_eq_or_of_lt (by omega : 2 ^ 6 * b + (2 ^ 2 * a + k) < 2 ^ 10)]
  unfold pk
  dsimp only
  omega
theorem isTurn_pk {m : Mv} (h : m.1 < 4) : (r_X4_isTurn (nI (pk m)) = true) ↔ m.1 = 2 := by
  unfold r_X4_isTurn
  rw [kind_pk h]
  by_cases q : m.1 = 2
  · rw [q, if_pos rfl]; simp
  · rw [if_neg (fun z => q (nI_inj (by omega) (by omega) z))]; simp [q]
/-- the colour asked is there; l: strand by slot, c: colour by strand -/
def fits1 (l c : List Nat) (m : Mv) : Bool := decide (m.2.2.2 = 0) || decide (c.getD (l.getD m.2.1 0) 0 + 1 = m.2.2.2)
theorem finds_pk {n : Nat} {m : Mv} {l c : List Nat} (hm : mvN n m) (hn : n ≤ 16) (hl : sm l) (hl16 : l.length ≤ 16) (hc : sm c) (hc16 : c.length ≤ 16) : r_X4_findsColour (nI (pk m)) (lN (enc l)) (lN (enc c)) = fits1 l c m := by
  obtain ⟨b1, b2, b3, b4, b5⟩ := mv_b hm hn
  unfold r_X4_findsColour fits1
  rw [asked_pk b1 b2 b3 b5, from_pk b1 b2 b5, get_enc hl hl16 b2, get_enc hc hc16 (sm_getD hl _)]
  by_cases q : m.2.2.2 = 0
  · rw [if_pos ((ask_m1 b4).mpr q)]; simp [q]
  · rw [if_neg (fun z => q ((ask_m1 b4).mp z)), pk_sub (by omega)]
    have := sm_getD hc (l.getD m.2.1 0)
    by_cases w : c.getD (l.getD m.2.1 0) 0 + 1 = m.2.2.2
    · rw [if_pos (by rw [← w]; rfl), decide_eq_true w, Bool.or_true]
    · rw [if_neg (fun z => w (by have := nI_inj (by omega) (by omega) z; omega)), decide_eq_false q, decide_eq_false w]; rfl
/-- one move, made on a row of strands (or of colours) -/
def mk1 (l : List Nat) (m : Mv) : List Nat := if m.1 = 2 then turnL l (m.2.1 % l.length) else if m.1 = 0 then liftL l m.2.1 m.2.2.1 else swapL l m.2.1 m.2.2.1
def mv1 (l c : List Nat) (m : Mv) : List Nat := if m.1 = 2 then mk1 l m else if fits1 l c m = true then mk1 l m else l
theorem sm_mk1 {l : List Nat} (h : sm l) (m : Mv) : sm (mk1 l m) := by
  unfold mk1
  split
  · exact sm_turn h _
  · split
    · exact sm_lift h _ _
    · exact sm_swap h _ _
theorem len_mk1 {l : List Nat} {m : Mv} (hm : mvN l.length m) : (mk1 l m).length = l.length := by
  unfold mk1
  split
  · exact len_turn _ _
  · rename_i h2
    have := hm.2.2.1 (by have := hm.1; omega)
    split
    · exact len_lift this.1 this.2
    · exact len_swap _ _ _
theorem sm_mv1 {l : List Nat} (h : sm l) (c : List Nat) (m : Mv) : sm (mv1 l c m) := by
  unfold mv1
  split
  · exact sm_mk1 h m
  · split
    · exact sm_mk1 h m
    · exact h
theorem len_mv1 {l c : List Nat} {m : Mv} (hm : mvN l.length m) : (mv1 l c m).length = l.length := by
  unfold mv1
  split
  · exact len_mk1 hm
  · split
    · exact len_mk1 hm
    · rfl
theorem turned_p (x : Int64) (k n : Nat) (hn : 0 < n) (h16 : n < 2 ^ 31) : p_X6_turned x (nI k) (nI n) := by
  unfold p_X6_turned
  refine ⟨fun _ => ⟨fun q => ?_, fun _ => trivial, fun _ => trivial⟩, fun _ => trivial⟩
  have := (nI_eq0 h16).mp q
  omega
theorem made_enc {l c : List Nat} {m : Mv} (hl : sm l) (hl16 : l.length ≤ 16) (h0 : 0 < l.length) (hc : sm c) (hc16 : c.length ≤ 16) (hm : mvN l.length m) : p_X4_madeOn (lN (enc l)) (nI (pk m)) (lN (enc c)) (nI l.length) ∧ r_X4_madeOn (lN (enc l)) (nI (pk m)) (lN (enc c)) (nI l.length) = lN (enc (mv1 l c m)) := by
  obtain ⟨b1, b2, b3, b4, b5⟩ := mv_b hm hl16
  constructor
  · unfold p_X4_madeOn
    rw [from_pk b1 b2 b5]
    refine ⟨fun _ => ⟨turned_p _ _ _ h0 (by omega), trivial⟩, fun _ => ⟨fun _ => ⟨fun _ => trivial, fun _ => trivial⟩, fun _ => trivial⟩⟩
  · unfold r_X4_madeOn
    rw [finds_pk hm hl16 hl hl16 hc hc16, from_pk b1 b2 b5, to_pk b1 b2 b3 b5, kind_pk b1]
    unfold mv1 mk1
    by_cases q : m.1 = 2
    · rw [if_pos ((isTurn_pk b1).mpr q), if_pos q, if_pos q, turned_enc hl hl16 h0 _ (by omega)]
    · rw [if_neg (fun z => q ((isTurn_pk b1).mp z)), if_neg q, if_neg q]
      have hab := hm.2.2.1 (by have := hm.1; omega)
      by_cases w : fits1 l c m = true
      · rw [if_pos w, if_pos w]
        by_cases z : m.1 = 0
        · rw [if_pos (by rw [z]; rfl), if_pos z, lifted_enc hl hl16 hab.1 hab.2]
        · rw [if_neg (fun v => z ((nI_eq0 (by omega)).mp v)), if_neg z, swapped_enc hl hl16 hab.1 hab.2]
      · rw [if_neg w, if_neg w]
/-- a singing, in thought; dr: the strand that is not moved (16 and more: none) -/
def mvd (c : List Nat) (dr : Nat) (l : List Nat) (m : Mv) : List Nat := if m.1 ≠ 2 ∧ l.getD m.2.1 0 = dr then l else mv1 l c m
def singD (c : List Nat) (dr : Nat) (l : List Nat) (s : List Mv) : List Nat := s.foldl (mvd c dr) l
def sgN (n : Nat) (s : List Mv) : Prop := ∀ m ∈ s, mvN n m
theorem sm_mvd {l : List Nat} (h : sm l) (c : List Nat) (dr : Nat) (m : Mv) : sm (mvd c dr l m) := by
  unfold mvd
  split
  · exact h
  · exact sm_mv1 h c m
theorem len_mvd {l c : List Nat} {dr : Nat} {m : Mv} (hm : mvN l.length m) : (mvd c dr l m).length = l.length := by
  unfold mvd
  split
  · rfl
  · exact len_mv1 hm
theorem sing_ok {c : List Nat} {dr : Nat} : ∀ {s : List Mv} {l : List Nat}, sm l → sgN l.length s → sm (singD c dr l s) ∧ (singD c dr l s).length = l.length
  | [], l, h, _ => ⟨h, rfl⟩
  | m :: s, l, h, hs => by
    have hm := hs m List.mem_cons_self
    have hl := len_mvd (c := c) (dr := dr) hm
    have := sing_ok (c := c) (dr := dr) (s := s) (sm_mvd h c dr m) (by rw [hl]; exact fun x hx => hs x (List.mem_cons_of_mem _ hx))
    exact ⟨this.1, by rw [← hl]; exact this.2⟩
