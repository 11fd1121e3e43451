-- sixteen small numbers in one long
def enc : List Nat → Nat
  | [] => 0
  | a :: l => a + 16 * enc l
def sm (l : List Nat) : Prop := ∀ x ∈ l, x < 16
theorem sm_cons {a : Nat} {l : List Nat} (h : sm (a :: l)) : a < 16 ∧ sm l := ⟨h a List.mem_cons_self, fun x hx => h x (List.mem_cons_of_mem _ hx)⟩
theorem sm_app {l m : List Nat} (h1 : sm l) (h2 : sm m) : sm (l ++ m) := fun x hx => (List.mem_append.mp hx).elim (h1 x) (h2 x)
theorem sm_take {l : List Nat} (h : sm l) (i : Nat) : sm (l.take i) := fun x hx => h x (List.mem_of_mem_take hx)
theorem sm_drop {l : List Nat} (h : sm l) (i : Nat) : sm (l.drop i) := fun x hx => h x (List.mem_of_mem_drop hx)
theorem enc_lt : ∀ {l : List Nat}, sm l → enc l < 16 ^ l.length
  | [], _ => by simp [enc]
  | a :: l, h => by
    have h1 := sm_cons h
    have h2 := enc_lt h1.2
    simp only [enc, List.length_cons, Nat.pow_succ]
    omega
theorem enc_app : ∀ (l m : List Nat), enc (l ++ m) = enc l + 16 ^ l.length * enc m
  | [], m => by simp [enc]
  | a :: l, m => by
    simp only [List.cons_append, enc, enc_app l m, List.length_cons, Nat.pow_succ]
    rw [Nat.mul_add, Nat.mul_comm (16 ^ l.length) 16, Nat.mul_assoc]
    omega
theorem enc_mod {l : List Nat} (h : sm l) (i : Nat) : enc l % 16 ^ i = enc (l.take i) := by
  rcases Nat.lt_or_ge i l.length with hi | hi
  · have e := enc_app (l.take i) (l.drop i)
    rw [List.take_append_drop] at e
    have hl : (l.take i).length = i := by rw [List.length_take]; omega
    have := enc_lt (sm_take h i)
    rw [hl] at e this
    rw [e, Nat.add_mul_mod_self_left, Nat.mod_eq_of_lt this]
  · rw [List.take_of_length_le hi]
    refine Nat.mod_eq_of_lt (Nat.lt_of_lt_of_le (enc_lt h) (Nat.pow_le_pow_right (by decide) hi))
theorem enc_div {l : List Nat} (h : sm l) (i : Nat) : enc l / 16 ^ i = enc (l.drop i) := by
  rcases Nat.lt_or_ge i l.length with hi | hi
  · have e := enc_app (l.take i) (l.drop i)
    rw [List.take_append_drop] at e
    have hl : (l.take i).length = i := by rw [List.length_take]; omega
    have := enc_lt (sm_take h i)
    rw [hl] at e this
    have hp : 0 < 16 ^ i := Nat.pow_pos (by decide)
    rw [e, Nat.add_mul_div_left _ _ hp, Nat.div_eq_of_lt this, Nat.zero_add]
  · rw [List.drop_eq_nil_of_le hi]
    exact Nat.div_eq_of_lt (Nat.lt_of_lt_of_le (enc_lt h) (Nat.pow_le_pow_right (by decide) hi))
theorem enc_hd {l : List Nat} (h : sm l) : enc l % 16 = l.getD 0 0 := by
  cases l with
  | nil => rfl
  | cons a l =>
    have := (sm_cons h).1
    show (a + 16 * enc l) % 16 = a
    omega
theorem enc_get {l : List Nat} (h : sm l) (i : Nat) : enc l / 16 ^ i % 16 = l.getD i 0 := by
  rw [enc_div h, enc_hd (sm_drop h i)]
  rw [List.getD_eq_getElem?_getD, List.getD_eq_getElem?_getD, List.getElem?_drop, Nat.add_zero]
theorem enc_inj : ∀ {l m : List Nat}, sm l → sm m → l.length = m.length → enc l = enc m → l = m
  | [], [], _, _, _, _ => rfl
  | [], _ :: _, _, _, h, _ => by simp at h
  | _ :: _, [], _, _, h, _ => by simp at h
  | a :: l, b :: m, h1, h2, hl, he => by
    have g1 := sm_cons h1
    have g2 := sm_cons h2
    simp only [enc] at he
    have e1 : a = b := by omega
    have e2 : enc l = enc m := by omega
    rw [e1, enc_inj g1.2 g2.2 (by simpa using hl) e2]
theorem sm_getD {l : List Nat} (h : sm l) (i : Nat) : l.getD i 0 < 16 := by
  rw [List.getD_eq_getElem?_getD]
  cases hx : l[i]? with
  | none => decide
  | some x => exact h x (List.mem_of_getElem? hx)
theorem p16 (i : Nat) : 16 ^ i = 2 ^ (4 * i) := by rw [Nat.pow_mul]
theorem p16_64 {i : Nat} (h : i ≤ 16) : 16 ^ i ≤ 2 ^ 64 := by
  rw [p16]
  exact Nat.pow_le_pow_right (by decide) (by omega)
theorem enc_64 {l : List Nat} (h : sm l) (hl : l.length ≤ 16) : enc l < 2 ^ 64 := Nat.lt_of_lt_of_le (enc_lt h) (p16_64 hl)
theorem lushr_nI {x k : Nat} (hx : x < 2 ^ 64) (hk : k < 64) : lushr (lN x) (nI k) = lN (x / 2 ^ k) := wb_shr hx hk
theorem lshl_nI (x : Nat) {k : Nat} (hk : k < 64) : lshl (lN x) (nI k) = lN (x * 2 ^ k) := wb_shl x hk
theorem lushr4 {x i : Nat} (hx : x < 2 ^ 64) (hi : i < 16) : lushr (lN x) (nI 4 * nI i) = lN (x / 16 ^ i) := by rw [pk_mul, lushr_nI hx (by omega), p16]
theorem lshl4 (x : Nat) {i : Nat} (hi : i < 16) : lshl (lN x) (nI 4 * nI i) = lN (x * 16 ^ i) := by rw [pk_mul, lshl_nI x (by omega), p16]
theorem get_nI {x i : Nat} (hx : x < 2 ^ 64) (hi : i < 16) : r_X6_get (lN x) (nI i) = nI (x / 16 ^ i % 16) := by
  unfold r_X6_get
  rw [lushr4 hx hi, lN_i]
  exact fa_mask _ 4
theorem get_enc {l : List Nat} (h : sm l) (hl : l.length ≤ 16) {i : Nat} (hi : i < 16) : r_X6_get (lN (enc l)) (nI i) = nI (l.getD i 0) := by
  rw [get_nI (enc_64 h hl) hi, enc_get h]
theorem lN_wrap (n : Nat) : lN (n % 2 ^ 64) = lN n := (wb_mod n).symm
theorem lowest_nI {i : Nat} (hi : i ≤ 16) : r_X6_lowest (nI i) = lN (16 ^ i - 1) := by
  unfold r_X6_lowest
  rcases Nat.lt_or_ge i 16 with h | h
  · rw [if_pos (nI_lt h (by decide))]
    have e1 : (1 : Int64) = lN 1 := by decide
    rw [e1, lshl4 1 h, Nat.one_mul]
    exact lN_sub (Nat.pow_pos (by decide))
  · have : i = 16 := by omega
    subst this
    rw [if_neg (nI_nlt (Nat.le_refl _) (by decide))]
    decide
theorem and_low {x i : Nat} (hx : x < 2 ^ 64) (hi : i ≤ 16) : lN x &&& r_X6_lowest (nI i) = lN (x % 16 ^ i) := by
  rw [lowest_nI hi]
  rcases Nat.lt_or_ge i 16 with h | h
  · rw [p16]
    exact wb_mask hx (by omega)
  · have : i = 16 := by omega
    subst this
    rw [Nat.mod_eq_of_lt (by simpa using hx)]
    have : lN (16 ^ 16 - 1) = -1 := by decide
    rw [this]
    simp
theorem or16 {a b i : Nat} (hi : i < 16) (ha : a < 16 ^ i) (h : b * 16 ^ i + a < 2 ^ 64) : lN a ||| lN (b * 16 ^ i) = lN (a + b * 16 ^ i) := g_or' (k := 4 * i) (p16 i).symm ha (by omega)
-- lists: take one out, put it in
def ins1 (l : List Nat) (b x : Nat) : List Nat := l.take b ++ x :: l.drop b
def del1 (l : List Nat) (a : Nat) : List Nat := l.take a ++ l.drop (a + 1)
def liftL (l : List Nat) (a b : Nat) : List Nat := ins1 (del1 l a) b (l.getD a 0)
def turnL (l : List Nat) (k : Nat) : List Nat := l.drop (l.length - k) ++ l.take (l.length - k)
def swapL (l : List Nat) (a b : Nat) : List Nat := (l.set a (l.getD b 0)).set b (l.getD a 0)
theorem sm_del {l : List Nat} (h : sm l) (a : Nat) : sm (del1 l a) := sm_app (sm_take h _) (sm_drop h _)
theorem sm_ins {l : List Nat} (h : sm l) (b x : Nat) (hx : x < 16) : sm (ins1 l b x) := by
  refine sm_app (sm_take h _) (fun y hy => ?_)
  rcases List.mem_cons.mp hy with q | q
  · rw [q]; exact hx
  · exact sm_drop h b y q
theorem sm_lift {l : List Nat} (h : sm l) (a b : Nat) : sm (liftL l a b) := sm_ins (sm_del h a) b _ (sm_getD h a)
theorem sm_turn {l : List Nat} (h : sm l) (k : Nat) : sm (turnL l k) := sm_app (sm_drop h _) (sm_take h _)
theorem sm_set {l : List Nat} (h : sm l) (a x : Nat) (hx : x < 16) : sm (l.set a x) := by
  intro y hy
  rcases List.mem_or_eq_of_mem_set hy with q | q
  · exact h y q
  · rw [q]; exact hx
theorem sm_swap {l : List Nat} (h : sm l) (a b : Nat) : sm (swapL l a b) := sm_set (sm_set h a _ (sm_getD h b)) b _ (sm_getD h a)
theorem len_del {l : List Nat} {a : Nat} (ha : a < l.length) : (del1 l a).length = l.length - 1 := by
  unfold del1
  rw [List.length_append, List.length_take, List.length_drop]
  omega
theorem len_ins {l : List Nat} {b x : Nat} (hb : b ≤ l.length) : (ins1 l b x).length = l.length + 1 := by
  unfold ins1
  rw [List.length_append, List.length_take, List.length_cons, List.length_drop]
  omega
theorem len_lift {l : List Nat} {a b : Nat} (ha : a < l.length) (hb : b < l.length) : (liftL l a b).length = l.length := by
  unfold liftL
  rw [len_ins (by rw [len_del ha]; omega), len_del ha]
  omega
theorem len_turn (l : List Nat) (k : Nat) : (turnL l k).length = l.length := by
  unfold turnL
  rw [List.length_append, List.length_take, List.length_drop]
  omega
theorem len_swap (l : List Nat) (a b : Nat) : (swapL l a b).length = l.length := by simp [swapL]
theorem enc_del {l : List Nat} (h : sm l) {a : Nat} (ha : a < l.length) : enc l % 16 ^ a + enc l / 16 ^ (a + 1) * 16 ^ a = enc (del1 l a) := by
  unfold del1
  rw [enc_app, enc_mod h, enc_div h, List.length_take, show min a l.length = a by omega, Nat.mul_comm]
theorem enc_ins {l : List Nat} (h : sm l) {b x : Nat} (hb : b ≤ l.length) : enc l % 16 ^ b + x * 16 ^ b + enc l / 16 ^ b * 16 ^ (b + 1) = enc (ins1 l b x) := by
  unfold ins1
  rw [enc_app, enc_mod h, enc_div h, List.length_take, show min b l.length = b by omega]
  simp only [enc]
  rw [Nat.mul_add, Nat.pow_succ, Nat.mul_comm x, Nat.mul_comm (enc (l.drop b)), Nat.mul_assoc, Nat.add_assoc]
theorem or3 {L h1 y K : Nat} (hL : L < 2 ^ K) (hy : y < 16) : (L + h1 * 2 ^ (K + 4)) ||| (y * 2 ^ K) = L + y * 2 ^ K + h1 * 2 ^ (K + 4) := by
  have hM : 2 ^ (K + 4) = 2 ^ K * 16 := by rw [Nat.pow_add]
  have hlt : 2 ^ K * y + L < 2 ^ (K + 4) := by
    rw [hM]
    have : 2 ^ K * y ≤ 2 ^ K * 15 := Nat.mul_le_mul_left _ (by omega)
    omega
  have hL2 : L < 2 ^ (K + 4) := by rw [hM]; omega
  rw [Nat.add_comm L, Nat.mul_comm h1, Nat.two_pow_add_eq_or_of_lt hL2, Nat.or_assoc, Nat.mul_comm y, Nat.or_comm L, ← Nat.two_pow_add_eq_or_of_lt hL, ← Nat.two_pow_add_eq_or_of_lt hlt]
  omega
theorem lifted_enc {l : List Nat} (h : sm l) (hl : l.length ≤ 16) {a b : Nat} (ha : a < l.length) (hb : b < l.length) : r_X6_lifted (lN (enc l)) (nI a) (nI b) = lN (enc (liftL l a b)) := by
  have hx := enc_64 h hl
  have hd := enc_del h ha
  have sd := sm_del h a
  have ld := len_del ha
  have dlt : enc (del1 l a) < 16 ^ 15 := Nat.lt_of_lt_of_le (enc_lt sd) (Nat.pow_le_pow_right (by decide) (by omega))
  have p15 : (16 : Nat) ^ 15 * 16 = 2 ^ 64 := by decide
  unfold r_X6_lifted
  rw [and_low hx (by omega), lushr4 hx (by omega), lushr_nI (Nat.lt_of_le_of_lt (Nat.div_le_self _ _) hx) (by decide), show (2 : Nat) ^ 4 = 16 by decide, Nat.div_div_eq_div_mul, ← Nat.pow_succ, lshl4 _ (by omega)]
  rw [or16 (by omega) (Nat.mod_lt _ (Nat.pow_pos (by decide))) (by rw [Nat.add_comm, hd]; omega), hd]
  have dx : enc (del1 l a) < 2 ^ 64 := by omega
  rw [and_low dx (by omega), lushr4 dx (by omega), lshl4 _ (by omega), lshl_nI _ (by decide), get_enc h hl (by omega)]
  have e64 : (nI (l.getD a 0)).toInt64 = lN (l.getD a 0) := nI_l (by have := sm_getD h a; omega)
  rw [e64, lshl4 _ (by omega)]
  have hi := enc_ins (x := l.getD a 0) sd (b := b) (by omega)
  have g1 := enc_lt (sm_ins sd b _ (sm_getD h a))
  rw [len_ins (by omega), ld, ← hi] at g1
  have g2 : 16 ^ (l.length - 1 + 1) ≤ 2 ^ 64 := p16_64 (by omega)
  have eb : enc (del1 l a) / 16 ^ b * 16 ^ b * 2 ^ 4 = enc (del1 l a) / 16 ^ b * 16 ^ (b + 1) := by rw [Nat.mul_assoc, show (2 : Nat) ^ 4 = 16 by decide, ← Nat.pow_succ]
  rw [eb]
  have hlow : enc (del1 l a) % 16 ^ b < 16 ^ (b + 1) := Nat.lt_of_lt_of_le (Nat.mod_lt _ (Nat.pow_pos (by decide))) (Nat.pow_le_pow_right (by decide) (by omega))
  have hlow2 : enc (del1 l a) % 16 ^ b < 16 ^ b := Nat.mod_lt _ (Nat.pow_pos (by decide))
  have hy := sm_getD h a
  -- before | behind | the one
  have o1 : lN (enc (del1 l a) % 16 ^ b) ||| lN (enc (del1 l a) / 16 ^ b * 16 ^ (b + 1)) = lN (enc (del1 l a) % 16 ^ b + enc (del1 l a) / 16 ^ b * 16 ^ (b + 1)) := by
    rw [p16 (b + 1)]
    exact g_or' (k := 4 * (b + 1)) rfl (by rw [← p16]; exact hlow) (by rw [← p16]; omega)
  rw [o1, wb_or (by omega) (by omega)]
  have o2 := or3 (L := enc (del1 l a) % 16 ^ b) (h1 := enc (del1 l a) / 16 ^ b) (y := l.getD a 0) (K := 4 * b) (by rw [← p16]; exact hlow2) hy
  rw [show 4 * b + 4 = 4 * (b + 1) by omega, ← p16, ← p16] at o2
  rw [o2, hi]
  rfl
theorem Nat.mod_mul_left_eq_aux {q r p c : Nat} (hp : 0 < p) (hr : r < p) : (q * p + r) % (c * p) = q % c * p + r := by
  rw [Nat.mul_comm c p, Nat.mod_mul, Nat.mul_comm q p, Nat.mul_add_mod, Nat.mod_eq_of_lt hr, Nat.mul_add_div hp, Nat.div_eq_of_lt hr, Nat.add_zero, Nat.mul_comm p, Nat.add_comm]
theorem turned_enc {l : List Nat} (h : sm l) (hl : l.length ≤ 16) (h4 : 0 < l.length) (k : Nat) (hk : k < 2 ^ 31) : r_X6_turned (lN (enc l)) (nI k) (nI l.length) = lN (enc (turnL l (k % l.length))) := by
  have hx := enc_64 h hl
  unfold r_X6_turned
  have c0 : (0 < nI l.length) := nI_lt (a := 0) h4 (by omega)
  have cb : irem (nI k) (nI l.length) = nI (k % l.length) := irem_nI hk h4 (by omega)
  have hm : k % l.length < l.length := Nat.mod_lt _ h4
  generalize k % l.length = m at cb hm ⊢
  rw [if_pos c0, cb]
  rcases Nat.eq_zero_or_pos m with h0 | h0
  · subst h0
    rw [if_pos nI_0]
    unfold turnL
    rw [Nat.sub_zero, List.drop_length, List.take_length, List.nil_append]
  · rw [if_neg (fun q => by have := (nI_eq0 (by omega)).mp q; omega)]
    rw [pk_sub (by omega), lshl4 _ (by omega), lushr4 hx (by omega), ← lN_wrap (enc l * 16 ^ m)]
    have e64 : (2 : Nat) ^ 64 = 16 ^ (16 - m) * 16 ^ m := by rw [← Nat.pow_add, show 16 - m + m = 16 by omega]
    rw [e64, Nat.mul_mod_mul_right]
    have hB : enc l / 16 ^ (l.length - m) < 16 ^ m := by
      rw [Nat.div_lt_iff_lt_mul (Nat.pow_pos (by decide)), ← Nat.pow_add, show m + (l.length - m) = l.length by omega]
      exact enc_lt h
    have hA : enc l % 16 ^ (16 - m) < 16 ^ (16 - m) := Nat.mod_lt _ (Nat.pow_pos (by decide))
    have hsum : enc l % 16 ^ (16 - m) * 16 ^ m + enc l / 16 ^ (l.length - m) < 2 ^ 64 := by
      rw [e64]
      have : enc l % 16 ^ (16 - m) * 16 ^ m + 16 ^ m ≤ 16 ^ (16 - m) * 16 ^ m := by
        rw [← Nat.succ_mul]
        exact Nat.mul_le_mul_right _ hA
      omega
    rw [g_or (k := 4 * m) (p16 m).symm hB hsum, and_low hsum hl]
    congr 1
    have e16 : 16 ^ l.length = 16 ^ (l.length - m) * 16 ^ m := by rw [← Nat.pow_add, show l.length - m + m = l.length by omega]
    have qm : ∀ q r p c : Nat, r < p → (q * p + r) % (c * p) = q % c * p + r := by
      intro q r p c hr
      have hp : 0 < p := by omega
      rw [Nat.mod_mul_left_eq_aux hp hr]
    unfold turnL
    rw [e16, qm _ _ _ _ hB, Nat.mod_mod_of_dvd _ (Nat.pow_dvd_pow 16 (by omega)), enc_app, List.length_drop, show l.length - (l.length - m) = m by omega, ← enc_mod h, ← enc_div h, Nat.mul_comm, Nat.add_comm]
theorem mask_nat {x i : Nat} (hx : x < 2 ^ 64) (hi : i < 16) : x &&& ((15 * 16 ^ i) ^^^ (2 ^ 64 - 1)) = x % 16 ^ i + x / 16 ^ (i + 1) * 16 ^ (i + 1) := by
  rw [p16 i, p16 (i + 1)]
  have hlo : x % 2 ^ (4 * i) < 2 ^ (4 * (i + 1)) := Nat.lt_of_lt_of_le (Nat.mod_lt _ (Nat.pow_pos (by decide))) (Nat.pow_le_pow_right (by decide) (by omega))
  rw [Nat.add_comm, Nat.mul_comm (x / _) (2 ^ (4 * (i + 1))), Nat.two_pow_add_eq_or_of_lt hlo, Nat.mul_comm (2 ^ (4 * (i + 1)))]
  apply Nat.eq_of_testBit_eq
  intro j
  rw [Nat.testBit_and, Nat.testBit_xor, Nat.testBit_or, Nat.testBit_mod_two_pow, Nat.testBit_two_pow_sub_one, Nat.testBit_mul_two_pow, Nat.testBit_mul_two_pow, Nat.testBit_div_two_pow]
  have h15 : ∀ t, Nat.testBit 15 t = decide (t < 4) := by
    intro t
    exact Nat.testBit_two_pow_sub_one 4 t
  rw [h15]
  rcases Nat.lt_or_ge j 64 with hj | hj
  · rcases Nat.lt_or_ge j (4 * i) with g1 | g1
    · simp [show ¬ 4 * i ≤ j by omega, hj, show ¬ 4 * (i + 1) ≤ j by omega, g1]
    · rcases Nat.lt_or_ge j (4 * (i + 1)) with g2 | g2
      · simp [g1, show j - 4 * i < 4 by omega, hj, show ¬ 4 * (i + 1) ≤ j by omega, show ¬ j < 4 * i by omega]
      · simp [g1, show ¬ j - 4 * i < 4 by omega, hj, g2, show j - 4 * (i + 1) + 4 * (i + 1) = j by omega, show ¬ j < 4 * i by omega]
  · have : x.testBit j = false := Nat.testBit_lt_two_pow (Nat.lt_of_lt_of_le hx (Nat.pow_le_pow_right (by decide) hj))
    simp only [this, Bool.false_and, Bool.and_false, Bool.or_false]
    rcases Nat.lt_or_ge j (4 * (i + 1)) with g2 | g2
    · simp [show ¬ 4 * (i + 1) ≤ j by omega]
    · simp [show j - 4 * (i + 1) + 4 * (i + 1) = j by omega, this]
theorem with_nI {x i v : Nat} (hx : x < 2 ^ 64) (hi : i < 16) (hv : v < 16) : r_X6_with (lN x) (nI i) (nI v) = lN (x % 16 ^ i + v * 16 ^ i + x / 16 ^ (i + 1) * 16 ^ (i + 1)) := by
  unfold r_X6_with
  have e15 : (15 : Int64) = lN 15 := by decide
  have em : (-1 : Int64) = lN (2 ^ 64 - 1) := by decide
  have p1 : 16 ^ i * 16 ≤ 2 ^ 64 := by rw [← Nat.pow_succ]; exact p16_64 (by omega)
  have hm : (15 * 16 ^ i) ^^^ (2 ^ 64 - 1) < 2 ^ 64 := Nat.xor_lt_two_pow (by omega) (by omega)
  rw [e15, lshl4 _ hi, em, lN_xor, wb_and hx hm, mask_nat hx hi, nI_l (by omega), lshl4 _ hi]
  have hlow : x % 16 ^ i < 16 ^ i := Nat.mod_lt _ (Nat.pow_pos (by decide))
  have hhi : x % 16 ^ i + x / 16 ^ (i + 1) * 16 ^ (i + 1) ≤ x := by
    have h1 := Nat.div_add_mod x (16 ^ (i + 1))
    have h2 : x % 16 ^ i ≤ x % 16 ^ (i + 1) := by
      rw [← Nat.mod_mod_of_dvd x (Nat.pow_dvd_pow 16 (Nat.le_succ i))]
      exact Nat.mod_le _ _
    rw [Nat.mul_comm] at h1
    omega
  have hvv : v * 16 ^ i < 2 ^ 64 := by
    have : v * 16 ^ i ≤ 15 * 16 ^ i := Nat.mul_le_mul_right _ (by omega)
    omega
  rw [wb_or (by omega) hvv]
  have o2 := or3 (L := x % 16 ^ i) (h1 := x / 16 ^ (i + 1)) (y := v) (K := 4 * i) (by rw [← p16]; exact hlow) hv
  rw [show 4 * i + 4 = 4 * (i + 1) by omega, ← p16, ← p16] at o2
  rw [o2]
theorem with_enc {l : List Nat} (h : sm l) (hl : l.length ≤ 16) {i v : Nat} (hi : i < l.length) (hv : v < 16) : r_X6_with (lN (enc l)) (nI i) (nI v) = lN (enc (l.set i v)) := by
  rw [with_nI (enc_64 h hl) (by omega) hv, List.set_eq_take_append_cons_drop, if_pos hi, enc_app, enc_mod h, enc_div h, List.length_take, show min i l.length = i by omega]
  simp only [enc]
  congr 1
  rw [Nat.mul_add, Nat.pow_succ, Nat.mul_comm v, Nat.mul_comm (enc (l.drop (i + 1))), Nat.mul_assoc, Nat.add_assoc]
theorem with_push {l : List Nat} (h : sm l) (hl : l.length < 16) {v : Nat} (hv : v < 16) : r_X6_with (lN (enc l)) (nI l.length) (nI v) = lN (enc (l ++ [v])) := by
  rw [with_nI (enc_64 h (by omega)) hl hv, enc_app, Nat.mod_eq_of_lt (enc_lt h), Nat.div_eq_of_lt (Nat.lt_of_lt_of_le (enc_lt h) (Nat.pow_le_pow_right (by decide) (by omega)))]
  simp only [enc]
  congr 1
  simp [Nat.mul_comm]
theorem swapped_enc {l : List Nat} (h : sm l) (hl : l.length ≤ 16) {a b : Nat} (ha : a < l.length) (hb : b < l.length) : r_X6_swapped (lN (enc l)) (nI a) (nI b) = lN (enc (swapL l a b)) := by
  unfold r_X6_swapped
  rw [get_enc h hl (by omega), get_enc h hl (by omega), with_enc h hl ha (sm_getD h b), with_enc (sm_set h a _ (sm_getD h b)) (by rw [List.length_set]; exact hl) (by rw [List.length_set]; exact hb) (sm_getD h a)]
  rfl
theorem home_enc {n : Nat} (hn : n ≤ 16) : r_X6_home (nI n) = lN (enc (List.range n)) := by
  unfold r_X6_home
  have e : (-81985529216486896 : Int64) = lN (enc (List.range 16)) := by decide
  have s16 : sm (List.range 16) := fun x hx => List.mem_range.mp hx
  rw [e, and_low (enc_64 s16 (by simp)) hn, enc_mod s16, List.take_range, show min n 16 = n by omega]
