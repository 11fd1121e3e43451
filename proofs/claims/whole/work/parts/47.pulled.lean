-- strands pulled out of the cord
theorem shl1 {j : Nat} (hj : j < 16) : nI 1 <<< (nI j &&& 31) = nI (2 ^ j) := by
  have k : ∀ j : Fin 16, nI 1 <<< (nI j.val &&& 31) = nI (2 ^ j.val) := by decide +kernel
  exact k ⟨j, hj⟩
def tb (x : Int32) (j : Nat) : Bool := decide (¬ x &&& (nI 1 <<< (nI j &&& 31)) = 0)
theorem tb_nI {t j : Nat} (hj : j < 16) : tb (nI t) j = t.testBit j := by
  unfold tb
  rw [shl1 hj]
  have e := fa_bit (n := t) (j := j) (by omega)
  cases hb : t.testBit j with
  | false => exact decide_eq_false (fun k => k (e.mpr hb))
  | true => exact decide_eq_true (fun k => by rw [e.mp k] at hb; exact absurd hb (by decide))
theorem shrN {t j : Nat} (ht : t < 2 ^ 16) (hj : j < 16) : nI t >>> (nI j &&& 31) = nI (t / 2 ^ j) := by
  have ej : ∀ j : Fin 16, (nI j.val &&& 31).toBitVec.smod 32 = BitVec.ofNat 32 j.val := by decide +kernel
  apply Int32.toBitVec_inj.mp
  rw [Int32.toBitVec_shiftRight, ej ⟨j, hj⟩]
  show BitVec.sshiftRight' (BitVec.ofNat 32 t) (BitVec.ofNat 32 j) = BitVec.ofNat 32 (t / 2 ^ j)
  unfold BitVec.sshiftRight'
  have hm : (BitVec.ofNat 32 t).msb = false := by
    rw [BitVec.msb_eq_decide, BitVec.toNat_ofNat]
    simp only [decide_eq_false_iff_not]
    omega
  rw [BitVec.sshiftRight_eq_of_msb_false hm]
  apply BitVec.eq_of_toNat_eq
  have hd : t / 2 ^ j ≤ t := Nat.div_le_self _ _
  rw [BitVec.toNat_ushiftRight, BitVec.toNat_ofNat, BitVec.toNat_ofNat, BitVec.toNat_ofNat, Nat.mod_eq_of_lt (show t < 2 ^ 32 by omega), Nat.mod_eq_of_lt (show j < 2 ^ 32 by omega), Nat.mod_eq_of_lt (show t / 2 ^ j < 2 ^ 32 by omega), Nat.shiftRight_eq_div_pow]
theorem bitM {t j : Nat} (ht : t < 2 ^ 16) (hj : j < 16) : (nI t >>> (nI j &&& 31)) &&& nI 1 = if tb (nI t) j = true then nI 1 else nI 0 := by
  rw [shrN ht hj, tb_nI hj, show nI 1 = nI (2 ^ 1 - 1) from rfl, fa_mask, Nat.testBit_eq_decide_div_mod_eq]
  by_cases q : t / 2 ^ j % 2 = 1
  · rw [decide_eq_true q, if_pos rfl]
    rw [show (2 : Nat) ^ 1 = 2 from rfl, q]
  · rw [decide_eq_false q, if_neg (by decide)]
    congr 1
    omega
theorem and_nI {t : Nat} (X : Int32) : ∃ t', t' ≤ t ∧ nI t &&& X = nI t' := by
  obtain ⟨N, _, e⟩ := wb_of32 X
  exact ⟨t &&& N, Nat.and_le_left, by rw [e, fa_and]⟩
def cov (o : Nat → Int32) (n : Nat) (x : Int32) (s : Nat) : Bool := (List.range n).any (fun y => tb x y && decide (0 < o (16 * y + s)))
def fre (o : Nat → Int32) (n : Nat) (x : Int32) (s : Nat) : Bool := tb x s && !(cov o n x s)
def lfr (o : Nat → Int32) (n : Nat) (x : Int32) : Nat := fa_first (fre o n x) n
def pl (o : Nat → Int32) (n : Nat) (i : Int32) : Nat → Int32 → Nat → Int32
  | 0, _, m => if i = -1 then nI m else -1
  | f + 1, x, m => if lfr o n x = n then (if i = -1 then nI m else -1) else if nI m = i then nI (lfr o n x) else pl o n i f (x &&& ((nI 1 <<< (nI (lfr o n x) &&& 31)) ^^^ (-1))) (m + 1)
theorem cov_iff {o : Nat → Int32} {n : Nat} {x : Int32} {s : Nat} : (cov o n x s = true) ↔ ∃ y, y < n ∧ tb x y = true ∧ 0 < o (16 * y + s) := by
  unfold cov
  rw [List.any_eq_true]
  constructor
  · rintro ⟨y, hy, q⟩
    rw [Bool.and_eq_true, decide_eq_true_iff] at q
    exact ⟨y, List.mem_range.mp hy, q⟩
  · rintro ⟨y, hy, q⟩
    exact ⟨y, List.mem_range.mpr hy, by rw [Bool.and_eq_true, decide_eq_true_iff]; exact q⟩
section Pulled
variable {d : Nat} {T : HT} {h : Hp} {Q : Option Value → Hp → Prop} {n : Nat} {o : Nat → Int32}
theorem s_isCovered (hL : Lay T) (eT : h.2.2 = T) (h16 : n ≤ 16) (ho : ∀ j, j < 256 → gI h 17 j = o j) {s : Nat} (hs : s < n) (x : Int32) (K : Q (some (.int (b2i (cov o n x s)))) h) : Call (d + 1) MX1_isCovered [.ref 15, .int (nI s), .int x, .int (nI n)] h Q := by
  refine b_X1_isCovered hL eT _ _ _ _ (isX1_15 hL) ?_
  refine upto n (fun i h1 => h1 = h ∧ ∀ y, y < i → tb x y = true → ¬ 0 < o (16 * y + s)) (fun i h1 => L_X1_isCovered_3 d 15 (nI s) x (nI n) (nI i) h1 Q) ?_ ?_ 0 h (Nat.zero_le _) ⟨rfl, fun j hj => by omega⟩
  · rintro i h1 hi ⟨rfl, al⟩ ih
    refine b_X1_isCovered_3 hL eT _ _ _ _ _ (isX1_15 hL) ?_
    have e1 : nI i * nI 16 + nI s = nI (16 * i + s) := by rw [pk_mul, nI_add, Nat.mul_comm]
    have e2 : r_X1_timesOver 15 (nI i) (nI s) h1 = o (16 * i + s) := by
      unfold r_X1_timesOver
      rw [e1, nI_clamp (by omega)]
      exact ho _ (by omega)
    have e3 : p_X1_timesOver 15 (nI i) (nI s) h1 := by
      unfold p_X1_timesOver
      rw [e1]
      exact ⟨(inB_iff (by omega)).mpr (by omega), trivial⟩
    rw [e2, nI_add]
    refine ⟨fun _ => ⟨fun z => ih _ ⟨rfl, fun y hy t => ?_⟩, fun z => ⟨e3, fun z2 => ?_, fun z2 => ih _ ⟨rfl, fun y hy t => ?_⟩⟩⟩, fun z => absurd (nI_lt hi (by omega)) z⟩
    · by_cases v : y = i
      · rw [v] at t
        exact absurd z (of_decide_eq_true t)
      · exact al y (by omega) t
    · have : cov o n x s = true := cov_iff.mpr ⟨i, hi, decide_eq_true z, z2⟩
      rw [this] at K
      exact K
    · by_cases v : y = i
      · rw [v]; exact z2
      · exact al y (by omega) t
  · rintro h1 ⟨rfl, al⟩
    refine b_X1_isCovered_3 hL eT _ _ _ _ _ (isX1_15 hL) ⟨fun z => absurd z (nI_nlt (Nat.le_refl _) (by omega)), fun _ => ?_⟩
    have : cov o n x s = false := by
      cases hq : cov o n x s with
      | false => rfl
      | true =>
        obtain ⟨y, hy, q1, q2⟩ := cov_iff.mp hq
        exact absurd q2 (al y hy q1)
    rw [this] at K
    exact K
theorem s_isFree (hL : Lay T) (eT : h.2.2 = T) (hn : gI h 60 0 = nI n) (h16 : n ≤ 16) (ho : ∀ j, j < 256 → gI h 60 (60 + j) = o j) (hz : ∀ x, x < 16 → o (16 * x + x) = 0) {s t : Nat} (hs : s < n) (ht : t < 2 ^ 16) (K : Q (some (.int (b2i (!(cov o n (nI t) s))))) h) : Call (d + 0) MX11_isFree [.ref 59, .int (nI s), .int (nI t)] h Q := by
  refine b_X11_isFree hL eT _ _ ?_
  refine upto n (fun i h1 => h1 = h ∧ ∀ y, y < i → tb (nI t) y = true → ¬ 0 < o (16 * y + s)) (fun i h1 => L_X11_isFree_2 d (nI s) (nI t) (nI i) h1 Q) ?_ ?_ 0 h (Nat.zero_le _) ⟨rfl, fun j hj => by omega⟩
  · rintro i h1 hi ⟨rfl, al⟩ ih
    refine b_X11_isFree_2 hL eT _ _ _ ?_
    have e1 : nI 60 + nI 16 * nI i + nI s = nI (60 + (16 * i + s)) := by rw [pk_mul, nI_add, nI_add, Nat.add_assoc]
    rw [hn, e1, nI_clamp (by omega), ho _ (by omega), nI_add, bitM ht (by omega)]
    refine ⟨fun _ => ⟨fun z => ih _ ⟨rfl, fun y hy q => ?_⟩, fun z => ⟨fun z1 => ⟨(inB_iff (by omega)).mpr (by omega), fun z2 => ?_, fun z2 => ih _ ⟨rfl, fun y hy q => ?_⟩⟩, fun z1 => ih _ ⟨rfl, fun y hy q => ?_⟩⟩⟩, fun z => absurd (nI_lt hi (by omega)) z⟩
    · have z : i = s := nI_inj (by omega) (by omega) z
      by_cases v : y = i
      · rw [v, z, hz s (by omega)]; decide
      · exact al y (by omega) q
    · have b : tb (nI t) i = true := by
        cases hq : tb (nI t) i with
        | true => rfl
        | false => rw [hq, if_neg (by decide)] at z1; exact absurd z1 (by decide)
      have : cov o n (nI t) s = true := cov_iff.mpr ⟨i, hi, b, z2⟩
      rw [this] at K
      exact K
    · by_cases v : y = i
      · rw [v]; exact z2
      · exact al y (by omega) q
    · by_cases v : y = i
      · rw [v] at q
        rw [q, if_pos rfl] at z1
        exact absurd rfl z1
      · exact al y (by omega) q
  · rintro h1 ⟨rfl, al⟩
    refine b_X11_isFree_2 hL eT _ _ _ ?_
    rw [hn]
    refine ⟨fun z => absurd z (nI_nlt (Nat.le_refl _) (by omega)), fun _ => ?_⟩
    have : cov o n (nI t) s = false := by
      cases hq : cov o n (nI t) s with
      | false => rfl
      | true =>
        obtain ⟨y, hy, q1, q2⟩ := cov_iff.mp hq
        exact absurd q2 (al y hy q1)
    rw [this] at K
    exact K
theorem s_leastFree (hL : Lay T) (eT : h.2.2 = T) (h16 : n ≤ 16) (ho : ∀ j, j < 256 → gI h 17 j = o j) (x : Int32) (K : Q (some (.int (if lfr o n x = n then -1 else nI (lfr o n x)))) h) : Call (d + 2) MX1_leastFree [.ref 15, .int x, .int (nI n)] h Q := by
  have le : lfr o n x ≤ n := fa_first_le _ n
  refine b_X1_leastFree hL eT _ _ _ (isX1_15 hL) ?_
  refine upto (lfr o n x) (fun i h1 => h1 = h) (fun i h1 => L_X1_leastFree_2 d 15 x (nI n) (nI i) h1 Q) ?_ ?_ 0 h (Nat.zero_le _) rfl
  · rintro i h1 hi rfl ih
    refine b_X1_leastFree_2 hL eT _ _ _ _ (isX1_15 hL) ?_
    have no : fre o n x i = false := fa_first_no _ n i hi
    rw [nI_add]
    refine ⟨fun _ => ⟨fun z => ih _ rfl, fun z => s_isCovered (d := d) hL eT h16 ho (by omega) x ⟨_, rfl, eT, fun _ => ih _ rfl, fun z2 => ?_⟩⟩, fun z => absurd (nI_lt (by omega) (by omega)) z⟩
    have b : tb x i = true := decide_eq_true z
    unfold fre at no
    rw [b, Bool.true_and] at no
    cases hq : cov o n x i with
    | true => exact absurd hq z2
    | false => rw [hq] at no; exact absurd no (by decide)
  · rintro h1 rfl
    refine b_X1_leastFree_2 hL eT _ _ _ _ (isX1_15 hL) ?_
    by_cases q : lfr o n x = n
    · rw [if_pos q] at K
      rw [q]
      exact ⟨fun z => absurd z (nI_nlt (Nat.le_refl _) (by omega)), fun _ => K⟩
    · rw [if_neg q] at K
      have yes : fre o n x (lfr o n x) = true := fa_first_yes _ n (Nat.lt_of_le_of_ne le q)
      unfold fre at yes
      rw [Bool.and_eq_true] at yes
      refine ⟨fun _ => ⟨fun z => absurd z (of_decide_eq_true yes.1), fun z => s_isCovered (d := d) hL eT h16 ho (by omega) x ⟨_, rfl, eT, fun z2 => ?_, fun _ => K⟩⟩, fun z => absurd (nI_lt (by omega) (by omega)) z⟩
      rw [z2] at yes
      exact absurd yes.2 (by decide)
theorem s_pulledC (hL : Lay T) (eT : h.2.2 = T) (hn : gI h 12 0 = nI n) (h16 : n ≤ 16) (ho : ∀ j, j < 256 → gI h 17 j = o j) (i : Int32) : ∀ f m x, f + m = n → Q (some (.int (pl o n i f x m))) h → L_X10_pulled_24 d i x (nI m) (nI m) h Q := by
  intro f
  induction f with
  | zero =>
    intro m x e K
    refine b_X10_pulled_24 hL eT _ _ _ _ ?_
    rw [hn]
    refine ⟨fun z => absurd z (nI_nlt (by omega) (by omega)), fun _ => ?_⟩
    unfold pl at K
    refine ⟨fun z => ?_, fun z => ?_⟩
    · rw [if_pos z] at K; exact K
    · rw [if_neg z] at K; exact K
  | succ f ih =>
    intro m x e K
    have le : lfr o n x ≤ n := fa_first_le _ n
    refine b_X10_pulled_24 hL eT _ _ _ _ ?_
    rw [hn]
    refine ⟨fun _ => ?_, fun z => absurd (nI_lt (by omega) (by omega)) z⟩
    refine s_leastFree (d := d) hL eT h16 ho x ⟨_, rfl, eT, fun z => ?_, fun z => ?_⟩
    · have q : lfr o n x = n := by
        by_cases q : lfr o n x = n
        · exact q
        · rw [if_neg q] at z; exact absurd ((nI_m1 _ (by omega)).mp z) (fun z => z)
      unfold pl at K
      rw [if_pos q] at K
      refine ⟨fun z => ?_, fun z => ?_⟩
      · rw [if_pos z] at K; exact K
      · rw [if_neg z] at K; exact K
    · have q : lfr o n x ≠ n := fun q => z (by rw [if_pos q])
      unfold pl at K
      rw [if_neg q] at K ⊢
      refine ⟨fun z => ?_, fun z => ?_⟩
      · rw [if_pos z] at K; exact K
      · rw [if_neg z] at K
        rw [nI_add]
        exact ih (m + 1) _ (by omega) K
theorem s_pulledM (hL : Lay T) (eT : h.2.2 = T) (hn : gI h 60 0 = nI n) (h16 : n ≤ 16) (ho : ∀ j, j < 256 → gI h 60 (60 + j) = o j) (hz : ∀ x, x < 16 → o (16 * x + x) = 0) (i : Int32) : ∀ f m x, (∃ t, t < 2 ^ 16 ∧ x = nI t) → f + m = n → Q (some (.int (pl o n i f x m))) h → L_X11_pulled_20 d i x (nI m) h Q := by
  intro f
  induction f with
  | zero =>
    intro m x _ e K
    refine b_X11_pulled_20 hL eT _ _ _ ?_
    rw [hn]
    refine ⟨fun z => absurd z (nI_nlt (by omega) (by omega)), fun _ => ?_⟩
    unfold pl at K
    rw [show m = n by omega] at K
    refine ⟨fun z => ?_, fun z => ?_⟩
    · rw [if_pos z] at K; exact K
    · rw [if_neg z] at K; exact K
  | succ f ih =>
    intro m x hx e K
    have le : lfr o n x ≤ n := fa_first_le _ n
    refine b_X11_pulled_20 hL eT _ _ _ ?_
    rw [hn]
    refine ⟨fun _ => ?_, fun z => absurd (nI_lt (by omega) (by omega)) z⟩
    obtain ⟨t, ht, ex⟩ := id hx
    have fin : ∀ v : Nat, v = lfr o n x → (v = n → (i = -1 → Q (some (.int (nI m))) h) ∧ (¬ i = -1 → Q (some (.int (-1))) h)) ∧ (v ≠ n → (nI m = i → Q (some (.int (nI v))) h) ∧ (¬ nI m = i → L_X11_pulled_20 d i (x &&& ((nI 1 <<< (nI v &&& 31)) ^^^ (-1))) (nI (m + 1)) h Q)) := by
      intro v ev
      unfold pl at K
      rw [← ev] at K
      refine ⟨fun q => ?_, fun q => ?_⟩
      · rw [if_pos q] at K
        exact ⟨fun z => by rw [if_pos z] at K; exact K, fun z => by rw [if_neg z] at K; exact K⟩
      · rw [if_neg q] at K
        refine ⟨fun z => by rw [if_pos z] at K; exact K, fun z => ?_⟩
        rw [if_neg z] at K
        refine ih (m + 1) _ ?_ (by omega) K
        obtain ⟨t', a, b⟩ := and_nI (t := t) ((nI 1 <<< (nI v &&& 31)) ^^^ (-1))
        exact ⟨t', by omega, by rw [ex, b]⟩
    refine upto (lfr o n x) (fun i h1 => h1 = h) (fun j h1 => L_X11_pulled_33 d i x (nI m) (nI j) h1 Q) ?_ ?_ 0 h (Nat.zero_le _) rfl
    · rintro j h1 hj rfl ihj
      have no : fre o n x j = false := fa_first_no _ n j hj
      refine b_X11_pulled_33 hL eT _ _ _ _ ?_
      rw [hn, nI_add]
      have bm := bitM ht (show j < 16 by omega)
      rw [← ex] at bm
      rw [bm]
      refine ⟨fun _ => ⟨fun _ => ihj _ rfl, fun z => ?_⟩, fun z => absurd (nI_lt (by omega) (by omega)) z⟩
      rw [ex]
      refine s_isFree (d := d) hL eT hn h16 ho hz (by omega) ht ⟨_, rfl, eT, fun z2 => ?_, fun _ => by rw [← ex]; exact ihj _ rfl⟩
      have b : tb x j = true := by
        cases hq : tb x j with
        | true => rfl
        | false => rw [hq, if_neg (by decide)] at z; exact absurd rfl z
      unfold fre at no
      rw [b, Bool.true_and, ex, z2] at no
      exact absurd no (by decide)
    · rintro h1 rfl
      obtain ⟨f1, f2⟩ := fin _ rfl
      refine b_X11_pulled_33 hL eT _ _ _ _ ?_
      rw [hn]
      by_cases q : lfr o n x = n
      · rw [q]
        exact ⟨fun z => absurd z (nI_nlt (Nat.le_refl _) (by omega)), fun _ => ⟨fun _ => f1 q, fun z => absurd rfl z⟩⟩
      · have yes : fre o n x (lfr o n x) = true := fa_first_yes _ n (Nat.lt_of_le_of_ne le q)
        unfold fre at yes
        rw [Bool.and_eq_true] at yes
        have f2 := f2 q
        generalize lfr o n x = v at *
        have bm := bitM ht (show v < 16 by omega)
        rw [← ex, yes.1, if_pos rfl] at bm
        rw [bm]
        refine ⟨fun _ => ⟨fun z => absurd z (by decide), fun z => ?_⟩, fun z => absurd (nI_lt (by omega) (by omega)) z⟩
        have e1 : x = nI t := ex
        rw [e1]
        refine s_isFree (d := d) hL eT hn h16 ho hz (by omega) ht ⟨_, rfl, eT, fun z2 => ?_, fun z2 => ?_⟩
        · rw [hn, nI_add, ← e1]
          exact ⟨fun z3 => absurd (nI_inj (by omega) (by omega) z3) q, fun _ => f2⟩
        · rw [← e1] at z2
          exact absurd yes.2 z2
theorem op_pulled {L : Nat} {xs : Nat → Int32} (I : Inv L xs h) (x : Int32) : Op MX10_pulled MX11_pulled [.int x] h (Inv L xs) := by
  obtain ⟨R, n, sl, c, q, nm, sg, w, v, rc, rm, hs⟩ := id I
  have hL := R.1
  obtain ⟨⟨v1, v2⟩, v3, v4, v5, v6, v7, v8⟩ := id v
  have hz := v8.2.2.2
  have k5 : ∀ j, j < 256 → gI h 17 j = w.2.2.2.2.1 j := rc.2.2.2.2.2.2.1.2.2.2.2
  have e0 : ∃ t, t < 2 ^ 16 ∧ nI 1 <<< (nI n &&& 31) - nI 1 = nI t := by
    have k : ∀ n : Fin 17, nI 1 <<< (nI n.val &&& 31) - nI 1 = nI (2 ^ n.val - 1) := by decide +kernel
    have := Nat.pow_le_pow_right (show 0 < 2 by decide) v2
    exact ⟨2 ^ n - 1, by omega, k ⟨n, by omega⟩⟩
  refine b_X10_pulled (d := 36) hL rfl _ ⟨fun z => ⟨_, rfl, ?_⟩, fun z => ?_⟩
  · exact b_X11_pulled (d := 38) hL rfl _ ⟨fun _ => ⟨rfl, I⟩, fun k => absurd z k⟩
  · rw [rc.1]
    refine s_pulledC hL rfl rc.1 v2 k5 x n 0 _ (by omega) ⟨_, rfl, b_X11_pulled (d := 38) hL rfl _ ⟨fun k => absurd k z, fun _ => ?_⟩⟩
    rw [rm.1]
    exact s_pulledM hL rfl rm.1 v2 rm.2.2.2.2.2.2.1.2.2.2.1 hz x n 0 _ e0 (by omega) ⟨rfl, I⟩
end Pulled
