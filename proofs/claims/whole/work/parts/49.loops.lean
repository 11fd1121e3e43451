-- loops, when ends are joined
def sig (l : List Nat) (n x : Nat) : Nat := fa_first (fun i => decide (l.getD i 0 = x)) n
theorem sig_ok {n x : Nat} {l : List Nat} (hp : pm n l) (hx : x < n) : sig l n x < n ∧ l.getD (sig l n x) 0 = x := by
  obtain ⟨i, hi, e⟩ := hp.2.2.2 x hx
  have le : sig l n x ≤ n := fa_first_le _ n
  have lt : sig l n x < n := by
    rcases Nat.lt_or_ge (sig l n x) n with q | q
    · exact q
    · have := fa_first_no (fun i => decide (l.getD i 0 = x)) n i (Nat.lt_of_lt_of_le hi q)
      exact absurd e (of_decide_eq_false this)
  exact ⟨lt, of_decide_eq_true (fa_first_yes _ n lt)⟩
def itr (f : Nat → Nat) : Nat → Nat → Nat
  | 0, x => x
  | i + 1, x => f (itr f i x)
theorem itr_add (f : Nat → Nat) (a x : Nat) : ∀ b, itr f (a + b) x = itr f b (itr f a x)
  | 0 => rfl
  | b + 1 => by
    show f (itr f (a + b) x) = f (itr f b (itr f a x))
    rw [itr_add f a x b]
def obt (f : Nat → Nat) (x : Nat) : Nat → Nat
  | 0 => 0
  | i + 1 => obt f x i ||| 2 ^ (itr f i x)
theorem obt_bit (f : Nat → Nat) (x j : Nat) : ∀ i, ((obt f x i).testBit j = true) ↔ ∃ k, k < i ∧ itr f k x = j
  | 0 => by
    unfold obt
    rw [Nat.zero_testBit]
    exact ⟨fun k => absurd k (by decide), fun ⟨k, a, _⟩ => by omega⟩
  | i + 1 => by
    unfold obt
    rw [Nat.testBit_or, Bool.or_eq_true, obt_bit f x j i, Nat.testBit_two_pow, decide_eq_true_iff]
    constructor
    · rintro (⟨k, a, b⟩ | q)
      · exact ⟨k, by omega, b⟩
      · exact ⟨i, by omega, q⟩
    · rintro ⟨k, a, b⟩
      by_cases z : k = i
      · right; rw [← z]; exact b
      · exact Or.inl ⟨k, by omega, b⟩
theorem obt_lt {f : Nat → Nat} {x n : Nat} (h16 : n ≤ 16) (hf : ∀ k, itr f k x < n) : ∀ i, obt f x i < 65536
  | 0 => by show 0 < 65536; decide
  | i + 1 => by
    unfold obt
    have a := obt_lt h16 hf i
    have b : 2 ^ (itr f i x) < 2 ^ 16 := Nat.pow_lt_pow_right (by decide) (by have := hf i; omega)
    exact Nat.or_lt_two_pow (n := 16) a b
section Orb
variable {n : Nat} {l : List Nat}
theorem itr_lt (hp : pm n l) {x : Nat} (hx : x < n) : ∀ i, itr (sig l n) i x < n
  | 0 => hx
  | i + 1 => (sig_ok hp (itr_lt hp hx i)).1
theorem sig_inj (hp : pm n l) {x y : Nat} (hx : x < n) (hy : y < n) (e : sig l n x = sig l n y) : x = y := by
  rw [← (sig_ok hp hx).2, e, (sig_ok hp hy).2]
theorem itr_inj (hp : pm n l) {x y : Nat} (hx : x < n) (hy : y < n) : ∀ i, itr (sig l n) i x = itr (sig l n) i y → x = y
  | 0, e => e
  | i + 1, e => itr_inj hp hx hy i (sig_inj hp (itr_lt hp hx i) (itr_lt hp hy i) e)
theorem obt_pop (hp : pm n l) (h16 : n ≤ 16) {x p : Nat} (hx : x < n) (no : ∀ i, 1 ≤ i → i < p → itr (sig l n) i x ≠ x) : ∀ k, k ≤ p → pop (obt (sig l n) x k) = k
  | 0, _ => by show pop 0 = 0; decide
  | k + 1, hk => by
    have ih := obt_pop hp h16 hx no k (by omega)
    unfold obt
    rw [pop_add (by have := itr_lt hp hx k; omega) ?_, ih]
    cases hb : (obt (sig l n) x k).testBit (itr (sig l n) k x) with
    | false => rfl
    | true =>
      obtain ⟨k', a, b⟩ := (obt_bit _ _ _ _).mp hb
      have e : itr (sig l n) k' (itr (sig l n) (k - k') x) = itr (sig l n) k' x := by
        rw [← itr_add, show k - k' + k' = k by omega, b]
      exact absurd (itr_inj hp (itr_lt hp hx _) hx k' e) (no (k - k') (by omega) (by omega))
def per (l : List Nat) (n x : Nat) : Nat := fa_first (fun i => decide (itr (sig l n) (i + 1) x = x)) n + 1
theorem per_ok (hp : pm n l) (h16 : n ≤ 16) {x : Nat} (hx : x < n) : 1 ≤ per l n x ∧ per l n x ≤ n ∧ itr (sig l n) (per l n x) x = x ∧ ∀ i, 1 ≤ i → i < per l n x → itr (sig l n) i x ≠ x := by
  have le := fa_first_le (fun i => decide (itr (sig l n) (i + 1) x = x)) n
  have no : ∀ i, 1 ≤ i → i < per l n x → itr (sig l n) i x ≠ x := fun i a b => by
    have := fa_first_no (fun i => decide (itr (sig l n) (i + 1) x = x)) n (i - 1) (by unfold per at b; omega)
    have := of_decide_eq_false this
    rw [show i - 1 + 1 = i by omega] at this
    exact this
  have lt : fa_first (fun i => decide (itr (sig l n) (i + 1) x = x)) n < n := by
    rcases Nat.lt_or_ge (fa_first (fun i => decide (itr (sig l n) (i + 1) x = x)) n) n with q | q
    · exact q
    · have e : per l n x = n + 1 := by unfold per; omega
      have a := obt_pop hp h16 hx no (n + 1) (by omega)
      have b : pop (obt (sig l n) x (n + 1)) ≤ n := by
        refine cnt_below (fun k hk => ?_) 16
        cases hb : (obt (sig l n) x (n + 1)).testBit k with
        | false => rfl
        | true =>
          obtain ⟨k', _, b⟩ := (obt_bit _ _ _ _).mp hb
          have := itr_lt hp hx k'
          omega
      omega
  exact ⟨by unfold per; omega, by unfold per; omega, of_decide_eq_true (fa_first_yes _ n lt), no⟩
theorem itr_mul (hp : pm n l) (h16 : n ≤ 16) {x : Nat} (hx : x < n) : ∀ q, itr (sig l n) (per l n x * q) x = x
  | 0 => rfl
  | q + 1 => by rw [Nat.mul_succ, itr_add, itr_mul hp h16 hx q, (per_ok hp h16 hx).2.2.1]
theorem itr_mod (hp : pm n l) (h16 : n ≤ 16) {x : Nat} (hx : x < n) (k : Nat) : itr (sig l n) (k % per l n x) x = itr (sig l n) k x := by
  have e := Nat.div_add_mod k (per l n x)
  rw [← e, itr_add, itr_mul hp h16 hx, e]
theorem orb_n (hp : pm n l) (h16 : n ≤ 16) {x j : Nat} (hx : x < n) : (∃ k, k < n ∧ itr (sig l n) k x = j) ↔ ∃ k, itr (sig l n) k x = j := by
  have p := per_ok hp h16 hx
  refine ⟨fun ⟨k, _, b⟩ => ⟨k, b⟩, fun ⟨k, b⟩ => ⟨k % per l n x, ?_, by rw [itr_mod hp h16 hx]; exact b⟩⟩
  have := Nat.mod_lt k (show 0 < per l n x by omega)
  omega
theorem obt_pop_n (hp : pm n l) (h16 : n ≤ 16) {x : Nat} (hx : x < n) : pop (obt (sig l n) x n) = per l n x := by
  have p := per_ok hp h16 hx
  rw [← obt_pop hp h16 hx p.2.2.2 (per l n x) (Nat.le_refl _)]
  refine fa_cnt_cong (fun k _ => ?_)
  have key : ((obt (sig l n) x n).testBit k = true) ↔ ((obt (sig l n) x (per l n x)).testBit k = true) := by
    rw [obt_bit, obt_bit]
    refine ⟨fun ⟨i, _, b⟩ => ⟨i % per l n x, Nat.mod_lt _ (by omega), by rw [itr_mod hp h16 hx]; exact b⟩, fun ⟨i, a, b⟩ => ⟨i, by omega, b⟩⟩
  exact Bool.eq_iff_iff.mpr key
theorem orb_sym (hp : pm n l) (h16 : n ≤ 16) {x i : Nat} (hx : x < n) : ∃ k, itr (sig l n) k (itr (sig l n) i x) = x := by
  have p := per_ok hp h16 hx
  refine ⟨per l n x * (i + 1) - i, ?_⟩
  have : i ≤ per l n x * (i + 1) := Nat.le_trans (Nat.le_succ i) (Nat.le_mul_of_pos_left _ (by omega))
  rw [← itr_add, show i + (per l n x * (i + 1) - i) = per l n x * (i + 1) by omega, itr_mul hp h16 hx]
def lst (l : List Nat) (n s : Nat) : Bool := (List.range (per l n s)).all (fun j => !(decide (itr (sig l n) j s < s)))
theorem lst_iff (hp : pm n l) (h16 : n ≤ 16) {s : Nat} (hs : s < n) : (lst l n s = true) ↔ ¬ ∃ s', s' < s ∧ ∃ i, itr (sig l n) i s' = s := by
  have p := per_ok hp h16 hs
  unfold lst
  rw [List.all_eq_true]
  constructor
  · rintro al ⟨s', hs', i, e⟩
    obtain ⟨k, e2⟩ := orb_sym (i := i) hp h16 (show s' < n by omega)
    rw [e] at e2
    have := al (k % per l n s) (List.mem_range.mpr (Nat.mod_lt _ (by omega)))
    rw [itr_mod hp h16 hs, e2, decide_eq_true hs'] at this
    exact absurd this (by decide)
  · intro no j hj
    by_cases z : itr (sig l n) j s < s
    · obtain ⟨k, e⟩ := orb_sym (i := j) hp h16 hs
      exact absurd ⟨_, z, k, e⟩ no
    · rw [decide_eq_false z]; rfl
end Orb
section Loops
variable {d : Nat} {T : HT} {h : Hp} {Q : Option Value → Hp → Prop} {n : Nat} {l : List Nat}
theorem s_ringOf (hL : Lay T) (eT : h.2.2 = T) (hn : gI h 12 0 = nI n) (h16 : n ≤ 16) (hp : pm n l) (hr : gJ h 15 0 = lN (enc l)) {x : Nat} (hx : x < n) (K : Q (some (.int (nI (obt (sig l n) x n)))) h) : Call (d + 2) MX10_ringOf [.ref 1, .int (nI x)] h Q := by
  refine b_X10_ringOf hL eT _ ?_
  refine upto n (fun i h1 => h1 = h) (fun i h1 => L_X10_ringOf_7 d (nI (obt (sig l n) x i)) (nI (itr (sig l n) i x)) (nI i) h1 Q) ?_ ?_ 0 h (Nat.zero_le _) rfl
  · rintro i h1 hi rfl ih
    have hlt := itr_lt hp hx i
    have so := sig_ok hp hlt
    refine b_X10_ringOf_7 hL eT _ _ _ ?_
    rw [hn, hr, shl1 (by omega), fa_or, nI_add]
    exact ⟨fun _ => s_slotWith (d := d) hL eT hp h16 so.1 so.2 ⟨_, rfl, eT, ih _ rfl⟩, fun z => absurd (nI_lt hi (by omega)) z⟩
  · rintro h1 rfl
    refine b_X10_ringOf_7 hL eT _ _ _ ?_
    rw [hn]
    exact ⟨fun z => absurd z (nI_nlt (Nat.le_refl _) (by omega)), fun _ => K⟩
theorem s_ringM (hL : Lay T) (eT : h.2.2 = T) (h16 : n ≤ 16) (hp : pm n l) (hr : MR h l) {x : Nat} (hx : x < n) (K : Q (some (.int (nI (per l n x)))) h) : Call (d + 1) MX11_ring [.ref 59, .int (nI x)] h Q := by
  have p := per_ok hp h16 hx
  have so := sig_ok hp hx
  refine b_X11_ring hL eT _ (s_slotOf (d := d) hL eT hp h16 hr so.1 so.2 ⟨_, rfl, eT, ?_⟩)
  refine upto (per l n x) (fun i h1 => h1 = h ∧ 1 ≤ i) (fun i h1 => L_X11_ring_8 d (nI x) (nI i) (nI (itr (sig l n) i x)) h1 Q) ?_ ?_ 1 h (by omega) ⟨rfl, Nat.le_refl _⟩
  · rintro i h1 hi ⟨rfl, i1⟩ ih
    have hlt := itr_lt hp hx i
    have so := sig_ok hp hlt
    refine b_X11_ring_8 hL eT _ _ _ ?_
    rw [nI_add]
    exact ⟨fun z => absurd (nI_inj (by omega) (by omega) z) (p.2.2.2 i i1 hi), fun _ => s_slotOf (d := d) hL eT hp h16 hr so.1 so.2 ⟨_, rfl, eT, ih _ ⟨rfl, by omega⟩⟩⟩
  · rintro h1 ⟨rfl, i1⟩
    refine b_X11_ring_8 hL eT _ _ _ ?_
    rw [p.2.2.1]
    exact ⟨fun _ => K, fun z => absurd rfl z⟩
theorem s_isLeast (hL : Lay T) (eT : h.2.2 = T) (h16 : n ≤ 16) (hp : pm n l) (hr : MR h l) {x : Nat} (hx : x < n) (K : Q (some (.int (b2i (lst l n x)))) h) : Call (d + 1) MX11_isLeast [.ref 59, .int (nI x)] h Q := by
  have p := per_ok hp h16 hx
  have so := sig_ok hp hx
  refine b_X11_isLeast hL eT _ (s_slotOf (d := d) hL eT hp h16 hr so.1 so.2 ⟨_, rfl, eT, ?_⟩)
  refine upto (per l n x) (fun i h1 => (h1 = h ∧ 1 ≤ i) ∧ ∀ j, j < i → ¬ itr (sig l n) j x < x) (fun i h1 => L_X11_isLeast_6 d (nI x) (nI (itr (sig l n) i x)) h1 Q) ?_ ?_ 1 h (by omega) ⟨⟨rfl, Nat.le_refl _⟩, fun j hj => ?_⟩
  · rintro i h1 hi ⟨⟨rfl, i1⟩, al⟩ ih
    have hlt := itr_lt hp hx i
    have so := sig_ok hp hlt
    refine b_X11_isLeast_6 hL eT _ _ ?_
    refine ⟨fun z => absurd (nI_inj (by omega) (by omega) z) (p.2.2.2 i i1 hi), fun _ => ⟨fun z => ?_, fun z => s_slotOf (d := d) hL eT hp h16 hr so.1 so.2 ⟨_, rfl, eT, ih _ ⟨⟨rfl, by omega⟩, fun j hj => ?_⟩⟩⟩⟩
    · have z := (nI_ltI (by omega) (by omega)).mp z
      have : lst l n x = false := by
        cases hb : lst l n x with
        | false => rfl
        | true =>
          unfold lst at hb
          have := List.all_eq_true.mp hb i (List.mem_range.mpr hi)
          rw [decide_eq_true z] at this
          exact absurd this (by decide)
      rw [this] at K
      exact K
    · by_cases v : j = i
      · rw [v]; exact fun k => z (nI_lt k (by omega))
      · exact al j (by omega)
  · rintro h1 ⟨⟨rfl, i1⟩, al⟩
    refine b_X11_isLeast_6 hL eT _ _ ?_
    rw [p.2.2.1]
    have : lst l n x = true := by
      unfold lst
      refine List.all_eq_true.mpr (fun j hj => ?_)
      rw [decide_eq_false (al j (List.mem_range.mp hj))]; rfl
    rw [this] at K
    exact ⟨fun _ => K, fun z => absurd rfl z⟩
  · rw [show j = 0 by omega]; exact Nat.lt_irrefl x
theorem s_loopsM (hL : Lay T) (eT : h.2.2 = T) (hn : gI h 60 0 = nI n) (h16 : n ≤ 16) (hp : pm n l) (hr : MR h l) (K : Q (some (.int (nI (fa_cnt (lst l n) n)))) h) : Call (d + 2) MX11_loops [.ref 59, .int (-1)] h Q := by
  refine b_X11_loops hL eT _ ⟨fun _ => ?_, fun z => absurd rfl z⟩
  refine upto n (fun i h1 => h1 = h) (fun i h1 => L_X11_loops_27 d (nI (fa_cnt (lst l n) i)) (nI i) h1 Q) ?_ ?_ 0 h (Nat.zero_le _) rfl
  · rintro i h1 hi rfl ih
    refine b_X11_loops_27 hL eT _ _ ?_
    rw [hn, nI_add, nI_add, nI_add]
    refine ⟨fun _ => s_isLeast (d := d) hL eT h16 hp hr hi ⟨_, rfl, eT, fun z => ?_, fun z => ?_⟩, fun z => absurd (nI_lt hi (by omega)) z⟩
    · rw [← fa_cnt_yes z]; exact ih _ rfl
    · have z : lst l n i = false := Bool.eq_false_iff.mpr z
      rw [Nat.add_zero, ← fa_cnt_no z]; exact ih _ rfl
  · rintro h1 rfl
    refine b_X11_loops_27 hL eT _ _ ?_
    rw [hn]
    exact ⟨fun z => absurd z (nI_nlt (Nat.le_refl _) (by omega)), fun _ => K⟩
theorem s_countRings (hL : Lay T) (eT : h.2.2 = T) (hn : gI h 12 0 = nI n) (h16 : n ≤ 16) (hp : pm n l) (hr : gJ h 15 0 = lN (enc l)) (K : Q (some (.int (nI (fa_cnt (lst l n) n)))) h) : Call (d + 3) MX10_countRings [.ref 1] h Q := by
  refine b_X10_countRings hL eT ?_
  have main := upto n (fun i h1 => h1 = h) (fun i h1 => ∀ t, (∀ j, (t.testBit j = true) ↔ ∃ s, s < i ∧ ∃ k, itr (sig l n) k s = j) → L_X10_countRings_6 d (nI (fa_cnt (lst l n) i)) (nI t) (nI i) h1 Q) ?_ ?_ 0 h (Nat.zero_le _) rfl
  · refine main 0 (fun j => ?_)
    rw [Nat.zero_testBit]
    exact ⟨fun k => absurd k (by decide), fun ⟨s, a, _⟩ => by omega⟩
  · rintro i h1 hi rfl ih t ht
    refine b_X10_countRings_6 hL eT _ _ _ ?_
    have li := lst_iff hp h16 hi
    rw [hn, nI_add, nI_add]
    refine ⟨fun _ => ⟨fun z => ?_, fun z => ?_⟩, fun z => absurd (nI_lt hi (by omega)) z⟩
    · have b : ¬ t.testBit i = true := fun q => by
        rw [← tb_nI (by omega)] at q
        exact (of_decide_eq_true q) z
      have ls : lst l n i = true := li.mpr (fun k => b ((ht i).mpr k))
      refine s_ringOf (d := d) hL eT hn h16 hp hr hi ⟨_, rfl, eT, ?_⟩
      rw [fa_or, ← fa_cnt_yes ls]
      refine ih _ rfl _ (fun j => ?_)
      rw [Nat.testBit_or, Bool.or_eq_true, ht, obt_bit, orb_n hp h16 hi]
      constructor
      · rintro (⟨s, a, b⟩ | b)
        · exact ⟨s, by omega, b⟩
        · exact ⟨i, by omega, b⟩
      · rintro ⟨s, a, b⟩
        by_cases v : s = i
        · right; rw [← v]; exact b
        · exact Or.inl ⟨s, by omega, b⟩
    · have b : t.testBit i = true := by
        rw [← tb_nI (by omega)]
        exact decide_eq_true z
      have ls : lst l n i = false := Bool.eq_false_iff.mpr (fun k => li.mp k ((ht i).mp b))
      rw [← fa_cnt_no ls]
      refine ih _ rfl _ (fun j => ?_)
      rw [ht]
      constructor
      · rintro ⟨s, a, b⟩
        exact ⟨s, by omega, b⟩
      · rintro ⟨s, a, b⟩
        by_cases v : s = i
        · obtain ⟨s', a', k', e'⟩ := (ht i).mp (by assumption)
          obtain ⟨k, e⟩ := b
          refine ⟨s', a', k' + k, ?_⟩
          rw [itr_add, e', ← v, e]
        · exact ⟨s, by omega, b⟩
  · rintro h1 rfl t ht
    refine b_X10_countRings_6 hL eT _ _ _ ?_
    rw [hn]
    exact ⟨fun z => absurd z (nI_nlt (Nat.le_refl _) (by omega)), fun _ => K⟩
theorem op_loops {L : Nat} {xs : Nat → Int32} (I : Inv L xs h) (x : Int32) : Op MX10_loops MX11_loops [.int x] h (Inv L xs) := by
  obtain ⟨R, n, sl, c, q, nm, sg, w, v, rc, rm, hs⟩ := id I
  have hL := R.1
  obtain ⟨⟨v1, v2⟩, v3, v4, v5, v6, v7, v8⟩ := id v
  have r15 : gJ h 15 0 = lN (enc w.2.2.2.1) := rc.2.2.2.2.2.2.1.1
  have sC := isSlotC_iff (x := x) rc.1 v2
  have sM := isSlotM_iff (x := x) rm.1 (by omega) v2
  refine b_X10_loops (d := 35) hL rfl _ ⟨fun z => ?_, fun z => ⟨fun z2 => ?_, fun z2 => ?_⟩⟩
  · subst z
    exact s_countRings (d := 35) hL rfl rc.1 v2 v8.1 r15 ⟨_, rfl, rfl, _, rfl, s_loopsM (d := 37) hL rfl rm.1 v2 v8.1 rm.2.2.2.2.2.2.2 ⟨rfl, I⟩⟩
  · obtain ⟨s, hs', e⟩ := sC.mp z2
    have z2M := sM.mpr (sC.mp z2)
    subst e
    have lt : obt (sig w.2.2.2.1 n) s n < 65536 := obt_lt v2 (itr_lt v8.1 hs') n
    refine s_ringOf (d := 36) hL rfl rc.1 v2 v8.1 r15 hs' ⟨_, rfl, rfl, _, rfl, b_X11_loops (d := 37) hL rfl _ ⟨fun k => absurd k z, fun _ => ⟨fun _ => ?_, fun k => absurd z2M k⟩⟩⟩
    rw [bitCount_nI lt, obt_pop_n v8.1 v2 hs']
    exact s_ringM (d := 37) hL rfl v2 v8.1 rm.2.2.2.2.2.2.2 hs' ⟨_, rfl, rfl, rfl, I⟩
  · exact ⟨_, rfl, b_X11_loops (d := 37) hL rfl _ ⟨fun k => absurd k z, fun _ => ⟨fun k => absurd (sC.mpr (sM.mp k)) z2, fun _ => ⟨rfl, I⟩⟩⟩⟩
end Loops
